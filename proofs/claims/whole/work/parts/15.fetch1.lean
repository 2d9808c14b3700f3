theorem f_0_0 (l : za_L) (st : List Value) (w : za_W) : za_n 0 (0, l, st, w) = za_x 0 (.aload_n 0) 0 l st w := za_n.at zcc_0 dX0_init_0 rfl
theorem f_0_1 (l : za_L) (st : List Value) (w : za_W) : za_n 0 (1, l, st, w) = za_x 0 (.invokespecial 3) 1 l st w := za_n.at zcc_0 dX0_init_1 rfl
theorem f_0_4 (l : za_L) (st : List Value) (w : za_W) : za_n 0 (4, l, st, w) = za_x 0 (.aload_n 0) 4 l st w := za_n.at zcc_0 dX0_init_4 rfl
theorem f_0_5 (l : za_L) (st : List Value) (w : za_W) : za_n 0 (5, l, st, w) = za_x 0 (.aload_n 1) 5 l st w := za_n.at zcc_0 dX0_init_5 rfl
theorem f_0_6 (l : za_L) (st : List Value) (w : za_W) : za_n 0 (6, l, st, w) = za_x 0 (.putfield 9) 6 l st w := za_n.at zcc_0 dX0_init_6 rfl
theorem f_0_9 (l : za_L) (st : List Value) (w : za_W) : za_n 0 (9, l, st, w) = za_x 0 (.return_) 9 l st w := za_n.at zcc_0 dX0_init_9 rfl
theorem f_1_0 (l : za_L) (st : List Value) (w : za_W) : za_n 1 (0, l, st, w) = za_x 1 (.aload_n 0) 0 l st w := za_n.at zcc_1 dX0_isAtEnd_0 rfl
theorem f_1_1 (l : za_L) (st : List Value) (w : za_W) : za_n 1 (1, l, st, w) = za_x 1 (.getfield 15) 1 l st w := za_n.at zcc_1 dX0_isAtEnd_1 rfl
theorem f_1_4 (l : za_L) (st : List Value) (w : za_W) : za_n 1 (4, l, st, w) = za_go 6 l (.int (8) :: st) w := (za_n.at zcc_1 dX0_isAtEnd_4 rfl).trans (congrArg (fun x => za_go 6 l (.int x :: st) w) (by decide))
theorem f_1_6 (l : za_L) (st : List Value) (w : za_W) : za_n 1 (6, l, st, w) = za_x 1 (.aload_n 0) 6 l st w := za_n.at zcc_1 dX0_isAtEnd_6 rfl
theorem f_1_7 (l : za_L) (st : List Value) (w : za_W) : za_n 1 (7, l, st, w) = za_x 1 (.getfield 9) 7 l st w := za_n.at zcc_1 dX0_isAtEnd_7 rfl
theorem f_1_10 (l : za_L) (st : List Value) (w : za_W) : za_n 1 (10, l, st, w) = za_x 1 (.getfield 19) 10 l st w := za_n.at zcc_1 dX0_isAtEnd_10 rfl
theorem f_1_13 (l : za_L) (st : List Value) (w : za_W) : za_n 1 (13, l, st, w) = za_x 1 (.imul) 13 l st w := za_n.at zcc_1 dX0_isAtEnd_13 rfl
theorem f_1_14 (l : za_L) (st : List Value) (w : za_W) : za_n 1 (14, l, st, w) = za_x 1 (.if_icmp .lt 7) 14 l st w := za_n.at zcc_1 dX0_isAtEnd_14 rfl
theorem f_1_17 (l : za_L) (st : List Value) (w : za_W) : za_n 1 (17, l, st, w) = za_go 18 l (.int (1) :: st) w := (za_n.at zcc_1 dX0_isAtEnd_17 rfl).trans (congrArg (fun x => za_go 18 l (.int x :: st) w) (by decide))
theorem f_1_18 (l : za_L) (st : List Value) (w : za_W) : za_n 1 (18, l, st, w) = za_go 22 l st w := (za_n.at zcc_1 dX0_isAtEnd_18 rfl).trans (za_jp.at (by decide))
theorem f_1_21 (l : za_L) (st : List Value) (w : za_W) : za_n 1 (21, l, st, w) = za_go 22 l (.int (0) :: st) w := (za_n.at zcc_1 dX0_isAtEnd_21 rfl).trans (congrArg (fun x => za_go 22 l (.int x :: st) w) (by decide))
theorem f_1_22 (l : za_L) (st : List Value) (w : za_W) : za_n 1 (22, l, st, w) = za_x 1 (.ireturn) 22 l st w := za_n.at zcc_1 dX0_isAtEnd_22 rfl
theorem f_2_0 (l : za_L) (st : List Value) (w : za_W) : za_n 2 (0, l, st, w) = za_x 2 (.aload_n 0) 0 l st w := za_n.at zcc_2 dX0_next_0 rfl
theorem f_2_1 (l : za_L) (st : List Value) (w : za_W) : za_n 2 (1, l, st, w) = za_x 2 (.getfield 15) 1 l st w := za_n.at zcc_2 dX0_next_1 rfl
theorem f_2_4 (l : za_L) (st : List Value) (w : za_W) : za_n 2 (4, l, st, w) = za_go 5 l (.int (3) :: st) w := (za_n.at zcc_2 dX0_next_4 rfl).trans (congrArg (fun x => za_go 5 l (.int x :: st) w) (by decide))
theorem f_2_5 (l : za_L) (st : List Value) (w : za_W) : za_n 2 (5, l, st, w) = za_x 2 (.ishr) 5 l st w := za_n.at zcc_2 dX0_next_5 rfl
theorem f_2_6 (l : za_L) (st : List Value) (w : za_W) : za_n 2 (6, l, st, w) = za_x 2 (.istore_n 1) 6 l st w := za_n.at zcc_2 dX0_next_6 rfl
theorem f_2_7 (l : za_L) (st : List Value) (w : za_W) : za_n 2 (7, l, st, w) = za_x 2 (.iload_n 1) 7 l st w := za_n.at zcc_2 dX0_next_7 rfl
theorem f_2_8 (l : za_L) (st : List Value) (w : za_W) : za_n 2 (8, l, st, w) = za_x 2 (.ifCond .lt 14) 8 l st w := za_n.at zcc_2 dX0_next_8 rfl
theorem f_2_11 (l : za_L) (st : List Value) (w : za_W) : za_n 2 (11, l, st, w) = za_x 2 (.iload_n 1) 11 l st w := za_n.at zcc_2 dX0_next_11 rfl
theorem f_2_12 (l : za_L) (st : List Value) (w : za_W) : za_n 2 (12, l, st, w) = za_x 2 (.aload_n 0) 12 l st w := za_n.at zcc_2 dX0_next_12 rfl
theorem f_2_13 (l : za_L) (st : List Value) (w : za_W) : za_n 2 (13, l, st, w) = za_x 2 (.getfield 9) 13 l st w := za_n.at zcc_2 dX0_next_13 rfl
theorem f_2_16 (l : za_L) (st : List Value) (w : za_W) : za_n 2 (16, l, st, w) = za_x 2 (.getfield 19) 16 l st w := za_n.at zcc_2 dX0_next_16 rfl
theorem f_2_19 (l : za_L) (st : List Value) (w : za_W) : za_n 2 (19, l, st, w) = za_x 2 (.if_icmp .lt 5) 19 l st w := za_n.at zcc_2 dX0_next_19 rfl
theorem f_2_22 (l : za_L) (st : List Value) (w : za_W) : za_n 2 (22, l, st, w) = za_go 23 l (.int (-1) :: st) w := (za_n.at zcc_2 dX0_next_22 rfl).trans (congrArg (fun x => za_go 23 l (.int x :: st) w) (by decide))
theorem f_2_23 (l : za_L) (st : List Value) (w : za_W) : za_n 2 (23, l, st, w) = za_x 2 (.ireturn) 23 l st w := za_n.at zcc_2 dX0_next_23 rfl
theorem f_2_24 (l : za_L) (st : List Value) (w : za_W) : za_n 2 (24, l, st, w) = za_x 2 (.aload_n 0) 24 l st w := za_n.at zcc_2 dX0_next_24 rfl
theorem f_2_25 (l : za_L) (st : List Value) (w : za_W) : za_n 2 (25, l, st, w) = za_x 2 (.getfield 9) 25 l st w := za_n.at zcc_2 dX0_next_25 rfl
theorem f_2_28 (l : za_L) (st : List Value) (w : za_W) : za_n 2 (28, l, st, w) = za_x 2 (.getfield 24) 28 l st w := za_n.at zcc_2 dX0_next_28 rfl
theorem f_2_31 (l : za_L) (st : List Value) (w : za_W) : za_n 2 (31, l, st, w) = za_x 2 (.iload_n 1) 31 l st w := za_n.at zcc_2 dX0_next_31 rfl
theorem f_2_32 (l : za_L) (st : List Value) (w : za_W) : za_n 2 (32, l, st, w) = za_x 2 (.baload) 32 l st w := za_n.at zcc_2 dX0_next_32 rfl
theorem f_2_33 (l : za_L) (st : List Value) (w : za_W) : za_n 2 (33, l, st, w) = za_go 35 l (.int (7) :: st) w := (za_n.at zcc_2 dX0_next_33 rfl).trans (congrArg (fun x => za_go 35 l (.int x :: st) w) (by decide))
theorem f_2_35 (l : za_L) (st : List Value) (w : za_W) : za_n 2 (35, l, st, w) = za_x 2 (.aload_n 0) 35 l st w := za_n.at zcc_2 dX0_next_35 rfl
theorem f_2_36 (l : za_L) (st : List Value) (w : za_W) : za_n 2 (36, l, st, w) = za_x 2 (.getfield 15) 36 l st w := za_n.at zcc_2 dX0_next_36 rfl
theorem f_2_39 (l : za_L) (st : List Value) (w : za_W) : za_n 2 (39, l, st, w) = za_go 41 l (.int (7) :: st) w := (za_n.at zcc_2 dX0_next_39 rfl).trans (congrArg (fun x => za_go 41 l (.int x :: st) w) (by decide))
theorem f_2_41 (l : za_L) (st : List Value) (w : za_W) : za_n 2 (41, l, st, w) = za_x 2 (.iand) 41 l st w := za_n.at zcc_2 dX0_next_41 rfl
theorem f_2_42 (l : za_L) (st : List Value) (w : za_W) : za_n 2 (42, l, st, w) = za_x 2 (.isub) 42 l st w := za_n.at zcc_2 dX0_next_42 rfl
theorem f_2_43 (l : za_L) (st : List Value) (w : za_W) : za_n 2 (43, l, st, w) = za_x 2 (.ishr) 43 l st w := za_n.at zcc_2 dX0_next_43 rfl
theorem f_2_44 (l : za_L) (st : List Value) (w : za_W) : za_n 2 (44, l, st, w) = za_go 45 l (.int (1) :: st) w := (za_n.at zcc_2 dX0_next_44 rfl).trans (congrArg (fun x => za_go 45 l (.int x :: st) w) (by decide))
theorem f_2_45 (l : za_L) (st : List Value) (w : za_W) : za_n 2 (45, l, st, w) = za_x 2 (.iand) 45 l st w := za_n.at zcc_2 dX0_next_45 rfl
theorem f_2_46 (l : za_L) (st : List Value) (w : za_W) : za_n 2 (46, l, st, w) = za_x 2 (.istore_n 2) 46 l st w := za_n.at zcc_2 dX0_next_46 rfl
theorem f_2_47 (l : za_L) (st : List Value) (w : za_W) : za_n 2 (47, l, st, w) = za_x 2 (.aload_n 0) 47 l st w := za_n.at zcc_2 dX0_next_47 rfl
theorem f_2_48 (l : za_L) (st : List Value) (w : za_W) : za_n 2 (48, l, st, w) = za_x 2 (.dup) 48 l st w := za_n.at zcc_2 dX0_next_48 rfl
theorem f_2_49 (l : za_L) (st : List Value) (w : za_W) : za_n 2 (49, l, st, w) = za_x 2 (.getfield 15) 49 l st w := za_n.at zcc_2 dX0_next_49 rfl
theorem f_2_52 (l : za_L) (st : List Value) (w : za_W) : za_n 2 (52, l, st, w) = za_go 53 l (.int (1) :: st) w := (za_n.at zcc_2 dX0_next_52 rfl).trans (congrArg (fun x => za_go 53 l (.int x :: st) w) (by decide))
theorem f_2_53 (l : za_L) (st : List Value) (w : za_W) : za_n 2 (53, l, st, w) = za_x 2 (.iadd) 53 l st w := za_n.at zcc_2 dX0_next_53 rfl
theorem f_2_54 (l : za_L) (st : List Value) (w : za_W) : za_n 2 (54, l, st, w) = za_x 2 (.putfield 15) 54 l st w := za_n.at zcc_2 dX0_next_54 rfl
theorem f_2_57 (l : za_L) (st : List Value) (w : za_W) : za_n 2 (57, l, st, w) = za_x 2 (.iload_n 2) 57 l st w := za_n.at zcc_2 dX0_next_57 rfl
theorem f_2_58 (l : za_L) (st : List Value) (w : za_W) : za_n 2 (58, l, st, w) = za_x 2 (.ireturn) 58 l st w := za_n.at zcc_2 dX0_next_58 rfl
theorem f_3_0 (l : za_L) (st : List Value) (w : za_W) : za_n 3 (0, l, st, w) = za_x 3 (.lconst 0) 0 l st w := za_n.at zcc_3 dX0_number_0 rfl
theorem f_3_1 (l : za_L) (st : List Value) (w : za_W) : za_n 3 (1, l, st, w) = za_x 3 (.lstore_n 2) 1 l st w := za_n.at zcc_3 dX0_number_1 rfl
theorem f_3_2 (l : za_L) (st : List Value) (w : za_W) : za_n 3 (2, l, st, w) = za_go 3 l (.int (0) :: st) w := (za_n.at zcc_3 dX0_number_2 rfl).trans (congrArg (fun x => za_go 3 l (.int x :: st) w) (by decide))
theorem f_3_3 (l : za_L) (st : List Value) (w : za_W) : za_n 3 (3, l, st, w) = za_x 3 (.istore 4) 3 l st w := za_n.at zcc_3 dX0_number_3 rfl
theorem f_3_5 (l : za_L) (st : List Value) (w : za_W) : za_n 3 (5, l, st, w) = za_x 3 (.iload 4) 5 l st w := za_n.at zcc_3 dX0_number_5 rfl
theorem f_3_7 (l : za_L) (st : List Value) (w : za_W) : za_n 3 (7, l, st, w) = za_x 3 (.iload_n 1) 7 l st w := za_n.at zcc_3 dX0_number_7 rfl
theorem f_3_8 (l : za_L) (st : List Value) (w : za_W) : za_n 3 (8, l, st, w) = za_x 3 (.if_icmp .ge 33) 8 l st w := za_n.at zcc_3 dX0_number_8 rfl
theorem f_3_11 (l : za_L) (st : List Value) (w : za_W) : za_n 3 (11, l, st, w) = za_x 3 (.aload_n 0) 11 l st w := za_n.at zcc_3 dX0_number_11 rfl
theorem f_3_12 (l : za_L) (st : List Value) (w : za_W) : za_n 3 (12, l, st, w) = za_x 3 (.invokevirtual 28) 12 l st w := za_n.at zcc_3 dX0_number_12 rfl
theorem f_3_15 (l : za_L) (st : List Value) (w : za_W) : za_n 3 (15, l, st, w) = za_x 3 (.istore 5) 15 l st w := za_n.at zcc_3 dX0_number_15 rfl
theorem f_3_17 (l : za_L) (st : List Value) (w : za_W) : za_n 3 (17, l, st, w) = za_x 3 (.iload 5) 17 l st w := za_n.at zcc_3 dX0_number_17 rfl
theorem f_3_19 (l : za_L) (st : List Value) (w : za_W) : za_n 3 (19, l, st, w) = za_go 20 l (.int (-1) :: st) w := (za_n.at zcc_3 dX0_number_19 rfl).trans (congrArg (fun x => za_go 20 l (.int x :: st) w) (by decide))
theorem f_3_20 (l : za_L) (st : List Value) (w : za_W) : za_n 3 (20, l, st, w) = za_x 3 (.if_icmp .ne 7) 20 l st w := za_n.at zcc_3 dX0_number_20 rfl
theorem f_3_23 (l : za_L) (st : List Value) (w : za_W) : za_n 3 (23, l, st, w) = za_x 3 (.ldc2_w 32) 23 l st w := za_n.at zcc_3 dX0_number_23 rfl
theorem f_3_26 (l : za_L) (st : List Value) (w : za_W) : za_n 3 (26, l, st, w) = za_x 3 (.lreturn) 26 l st w := za_n.at zcc_3 dX0_number_26 rfl
theorem f_3_27 (l : za_L) (st : List Value) (w : za_W) : za_n 3 (27, l, st, w) = za_x 3 (.lload_n 2) 27 l st w := za_n.at zcc_3 dX0_number_27 rfl
theorem f_3_28 (l : za_L) (st : List Value) (w : za_W) : za_n 3 (28, l, st, w) = za_go 29 l (.int (1) :: st) w := (za_n.at zcc_3 dX0_number_28 rfl).trans (congrArg (fun x => za_go 29 l (.int x :: st) w) (by decide))
theorem f_3_29 (l : za_L) (st : List Value) (w : za_W) : za_n 3 (29, l, st, w) = za_x 3 (.lshl) 29 l st w := za_n.at zcc_3 dX0_number_29 rfl
theorem f_3_30 (l : za_L) (st : List Value) (w : za_W) : za_n 3 (30, l, st, w) = za_x 3 (.iload 5) 30 l st w := za_n.at zcc_3 dX0_number_30 rfl
theorem f_3_32 (l : za_L) (st : List Value) (w : za_W) : za_n 3 (32, l, st, w) = za_x 3 (.i2l) 32 l st w := za_n.at zcc_3 dX0_number_32 rfl
theorem f_3_33 (l : za_L) (st : List Value) (w : za_W) : za_n 3 (33, l, st, w) = za_x 3 (.lor) 33 l st w := za_n.at zcc_3 dX0_number_33 rfl
theorem f_3_34 (l : za_L) (st : List Value) (w : za_W) : za_n 3 (34, l, st, w) = za_x 3 (.lstore_n 2) 34 l st w := za_n.at zcc_3 dX0_number_34 rfl
theorem f_3_35 (l : za_L) (st : List Value) (w : za_W) : za_n 3 (35, l, st, w) = za_x 3 (.iinc 4 1) 35 l st w := za_n.at zcc_3 dX0_number_35 rfl
theorem f_3_38 (l : za_L) (st : List Value) (w : za_W) : za_n 3 (38, l, st, w) = za_go 5 l st w := (za_n.at zcc_3 dX0_number_38 rfl).trans (za_jp.at (by decide))
theorem f_3_41 (l : za_L) (st : List Value) (w : za_W) : za_n 3 (41, l, st, w) = za_x 3 (.lload_n 2) 41 l st w := za_n.at zcc_3 dX0_number_41 rfl
theorem f_3_42 (l : za_L) (st : List Value) (w : za_W) : za_n 3 (42, l, st, w) = za_x 3 (.lreturn) 42 l st w := za_n.at zcc_3 dX0_number_42 rfl
theorem f_4_0 (l : za_L) (st : List Value) (w : za_W) : za_n 4 (0, l, st, w) = za_x 4 (.aload_n 0) 0 l st w := za_n.at zcc_4 dX0_bytesTouched_0 rfl
theorem f_4_1 (l : za_L) (st : List Value) (w : za_W) : za_n 4 (1, l, st, w) = za_x 4 (.getfield 15) 1 l st w := za_n.at zcc_4 dX0_bytesTouched_1 rfl
theorem f_4_4 (l : za_L) (st : List Value) (w : za_W) : za_n 4 (4, l, st, w) = za_go 6 l (.int (7) :: st) w := (za_n.at zcc_4 dX0_bytesTouched_4 rfl).trans (congrArg (fun x => za_go 6 l (.int x :: st) w) (by decide))
theorem f_4_6 (l : za_L) (st : List Value) (w : za_W) : za_n 4 (6, l, st, w) = za_x 4 (.iadd) 6 l st w := za_n.at zcc_4 dX0_bytesTouched_6 rfl
theorem f_4_7 (l : za_L) (st : List Value) (w : za_W) : za_n 4 (7, l, st, w) = za_go 9 l (.int (8) :: st) w := (za_n.at zcc_4 dX0_bytesTouched_7 rfl).trans (congrArg (fun x => za_go 9 l (.int x :: st) w) (by decide))
theorem f_4_9 (l : za_L) (st : List Value) (w : za_W) : za_n 4 (9, l, st, w) = za_x 4 (.idiv) 9 l st w := za_n.at zcc_4 dX0_bytesTouched_9 rfl
theorem f_4_10 (l : za_L) (st : List Value) (w : za_W) : za_n 4 (10, l, st, w) = za_x 4 (.ireturn) 10 l st w := za_n.at zcc_4 dX0_bytesTouched_10 rfl
theorem f_5_0 (l : za_L) (st : List Value) (w : za_W) : za_n 5 (0, l, st, w) = za_x 5 (.aload_n 0) 0 l st w := za_n.at zcc_5 dX1_init_0 rfl
theorem f_5_1 (l : za_L) (st : List Value) (w : za_W) : za_n 5 (1, l, st, w) = za_x 5 (.invokespecial 1) 1 l st w := za_n.at zcc_5 dX1_init_1 rfl
theorem f_5_4 (l : za_L) (st : List Value) (w : za_W) : za_n 5 (4, l, st, w) = za_x 5 (.aload_n 0) 4 l st w := za_n.at zcc_5 dX1_init_4 rfl
theorem f_5_5 (l : za_L) (st : List Value) (w : za_W) : za_n 5 (5, l, st, w) = za_x 5 (.aload_n 1) 5 l st w := za_n.at zcc_5 dX1_init_5 rfl
theorem f_5_6 (l : za_L) (st : List Value) (w : za_W) : za_n 5 (6, l, st, w) = za_x 5 (.putfield 7) 6 l st w := za_n.at zcc_5 dX1_init_6 rfl
theorem f_5_9 (l : za_L) (st : List Value) (w : za_W) : za_n 5 (9, l, st, w) = za_x 5 (.return_) 9 l st w := za_n.at zcc_5 dX1_init_9 rfl
theorem f_6_0 (l : za_L) (st : List Value) (w : za_W) : za_n 6 (0, l, st, w) = za_x 6 (.aload_n 0) 0 l st w := za_n.at zcc_6 dX1_restart_0 rfl
theorem f_6_1 (l : za_L) (st : List Value) (w : za_W) : za_n 6 (1, l, st, w) = za_x 6 (.getfield 7) 1 l st w := za_n.at zcc_6 dX1_restart_1 rfl
theorem f_6_4 (l : za_L) (st : List Value) (w : za_W) : za_n 6 (4, l, st, w) = za_go 5 l (.int (0) :: st) w := (za_n.at zcc_6 dX1_restart_4 rfl).trans (congrArg (fun x => za_go 5 l (.int x :: st) w) (by decide))
theorem f_6_5 (l : za_L) (st : List Value) (w : za_W) : za_n 6 (5, l, st, w) = za_x 6 (.invokevirtual 13) 5 l st w := za_n.at zcc_6 dX1_restart_5 rfl
theorem f_6_8 (l : za_L) (st : List Value) (w : za_W) : za_n 6 (8, l, st, w) = za_x 6 (.aload_n 0) 8 l st w := za_n.at zcc_6 dX1_restart_8 rfl
theorem f_6_9 (l : za_L) (st : List Value) (w : za_W) : za_n 6 (9, l, st, w) = za_go 10 l (.int (0) :: st) w := (za_n.at zcc_6 dX1_restart_9 rfl).trans (congrArg (fun x => za_go 10 l (.int x :: st) w) (by decide))
theorem f_6_10 (l : za_L) (st : List Value) (w : za_W) : za_n 6 (10, l, st, w) = za_x 6 (.putfield 19) 10 l st w := za_n.at zcc_6 dX1_restart_10 rfl
theorem f_6_13 (l : za_L) (st : List Value) (w : za_W) : za_n 6 (13, l, st, w) = za_x 6 (.aload_n 0) 13 l st w := za_n.at zcc_6 dX1_restart_13 rfl
theorem f_6_14 (l : za_L) (st : List Value) (w : za_W) : za_n 6 (14, l, st, w) = za_go 15 l (.int (0) :: st) w := (za_n.at zcc_6 dX1_restart_14 rfl).trans (congrArg (fun x => za_go 15 l (.int x :: st) w) (by decide))
theorem f_6_15 (l : za_L) (st : List Value) (w : za_W) : za_n 6 (15, l, st, w) = za_x 6 (.putfield 23) 15 l st w := za_n.at zcc_6 dX1_restart_15 rfl
theorem f_6_18 (l : za_L) (st : List Value) (w : za_W) : za_n 6 (18, l, st, w) = za_x 6 (.return_) 18 l st w := za_n.at zcc_6 dX1_restart_18 rfl
theorem f_7_0 (l : za_L) (st : List Value) (w : za_W) : za_n 7 (0, l, st, w) = za_x 7 (.aload_n 0) 0 l st w := za_n.at zcc_7 dX1_putBit_0 rfl
theorem f_7_1 (l : za_L) (st : List Value) (w : za_W) : za_n 7 (1, l, st, w) = za_x 7 (.aload_n 0) 1 l st w := za_n.at zcc_7 dX1_putBit_1 rfl
theorem f_7_2 (l : za_L) (st : List Value) (w : za_W) : za_n 7 (2, l, st, w) = za_x 7 (.getfield 23) 2 l st w := za_n.at zcc_7 dX1_putBit_2 rfl
theorem f_7_5 (l : za_L) (st : List Value) (w : za_W) : za_n 7 (5, l, st, w) = za_go 6 l (.int (1) :: st) w := (za_n.at zcc_7 dX1_putBit_5 rfl).trans (congrArg (fun x => za_go 6 l (.int x :: st) w) (by decide))
theorem f_7_6 (l : za_L) (st : List Value) (w : za_W) : za_n 7 (6, l, st, w) = za_x 7 (.ishl) 6 l st w := za_n.at zcc_7 dX1_putBit_6 rfl
theorem f_7_7 (l : za_L) (st : List Value) (w : za_W) : za_n 7 (7, l, st, w) = za_x 7 (.iload_n 1) 7 l st w := za_n.at zcc_7 dX1_putBit_7 rfl
theorem f_7_8 (l : za_L) (st : List Value) (w : za_W) : za_n 7 (8, l, st, w) = za_go 9 l (.int (1) :: st) w := (za_n.at zcc_7 dX1_putBit_8 rfl).trans (congrArg (fun x => za_go 9 l (.int x :: st) w) (by decide))
theorem f_7_9 (l : za_L) (st : List Value) (w : za_W) : za_n 7 (9, l, st, w) = za_x 7 (.iand) 9 l st w := za_n.at zcc_7 dX1_putBit_9 rfl
theorem f_7_10 (l : za_L) (st : List Value) (w : za_W) : za_n 7 (10, l, st, w) = za_x 7 (.ior) 10 l st w := za_n.at zcc_7 dX1_putBit_10 rfl
theorem f_7_11 (l : za_L) (st : List Value) (w : za_W) : za_n 7 (11, l, st, w) = za_x 7 (.putfield 23) 11 l st w := za_n.at zcc_7 dX1_putBit_11 rfl
theorem f_7_14 (l : za_L) (st : List Value) (w : za_W) : za_n 7 (14, l, st, w) = za_x 7 (.aload_n 0) 14 l st w := za_n.at zcc_7 dX1_putBit_14 rfl
theorem f_7_15 (l : za_L) (st : List Value) (w : za_W) : za_n 7 (15, l, st, w) = za_x 7 (.dup) 15 l st w := za_n.at zcc_7 dX1_putBit_15 rfl
theorem f_7_16 (l : za_L) (st : List Value) (w : za_W) : za_n 7 (16, l, st, w) = za_x 7 (.getfield 19) 16 l st w := za_n.at zcc_7 dX1_putBit_16 rfl
theorem f_7_19 (l : za_L) (st : List Value) (w : za_W) : za_n 7 (19, l, st, w) = za_go 20 l (.int (1) :: st) w := (za_n.at zcc_7 dX1_putBit_19 rfl).trans (congrArg (fun x => za_go 20 l (.int x :: st) w) (by decide))
theorem f_7_20 (l : za_L) (st : List Value) (w : za_W) : za_n 7 (20, l, st, w) = za_x 7 (.iadd) 20 l st w := za_n.at zcc_7 dX1_putBit_20 rfl
theorem f_7_21 (l : za_L) (st : List Value) (w : za_W) : za_n 7 (21, l, st, w) = za_x 7 (.putfield 19) 21 l st w := za_n.at zcc_7 dX1_putBit_21 rfl
theorem f_7_24 (l : za_L) (st : List Value) (w : za_W) : za_n 7 (24, l, st, w) = za_x 7 (.aload_n 0) 24 l st w := za_n.at zcc_7 dX1_putBit_24 rfl
theorem f_7_25 (l : za_L) (st : List Value) (w : za_W) : za_n 7 (25, l, st, w) = za_x 7 (.getfield 19) 25 l st w := za_n.at zcc_7 dX1_putBit_25 rfl
theorem f_7_28 (l : za_L) (st : List Value) (w : za_W) : za_n 7 (28, l, st, w) = za_go 30 l (.int (8) :: st) w := (za_n.at zcc_7 dX1_putBit_28 rfl).trans (congrArg (fun x => za_go 30 l (.int x :: st) w) (by decide))
theorem f_7_30 (l : za_L) (st : List Value) (w : za_W) : za_n 7 (30, l, st, w) = za_x 7 (.irem) 30 l st w := za_n.at zcc_7 dX1_putBit_30 rfl
theorem f_7_31 (l : za_L) (st : List Value) (w : za_W) : za_n 7 (31, l, st, w) = za_x 7 (.ifCond .ne 19) 31 l st w := za_n.at zcc_7 dX1_putBit_31 rfl
theorem f_7_34 (l : za_L) (st : List Value) (w : za_W) : za_n 7 (34, l, st, w) = za_x 7 (.aload_n 0) 34 l st w := za_n.at zcc_7 dX1_putBit_34 rfl
theorem f_7_35 (l : za_L) (st : List Value) (w : za_W) : za_n 7 (35, l, st, w) = za_x 7 (.getfield 7) 35 l st w := za_n.at zcc_7 dX1_putBit_35 rfl
theorem f_7_38 (l : za_L) (st : List Value) (w : za_W) : za_n 7 (38, l, st, w) = za_x 7 (.aload_n 0) 38 l st w := za_n.at zcc_7 dX1_putBit_38 rfl
theorem f_7_39 (l : za_L) (st : List Value) (w : za_W) : za_n 7 (39, l, st, w) = za_x 7 (.getfield 23) 39 l st w := za_n.at zcc_7 dX1_putBit_39 rfl
theorem f_7_42 (l : za_L) (st : List Value) (w : za_W) : za_n 7 (42, l, st, w) = za_x 7 (.invokevirtual 26) 42 l st w := za_n.at zcc_7 dX1_putBit_42 rfl
theorem f_7_45 (l : za_L) (st : List Value) (w : za_W) : za_n 7 (45, l, st, w) = za_x 7 (.aload_n 0) 45 l st w := za_n.at zcc_7 dX1_putBit_45 rfl
theorem f_7_46 (l : za_L) (st : List Value) (w : za_W) : za_n 7 (46, l, st, w) = za_go 47 l (.int (0) :: st) w := (za_n.at zcc_7 dX1_putBit_46 rfl).trans (congrArg (fun x => za_go 47 l (.int x :: st) w) (by decide))
theorem f_7_47 (l : za_L) (st : List Value) (w : za_W) : za_n 7 (47, l, st, w) = za_x 7 (.putfield 23) 47 l st w := za_n.at zcc_7 dX1_putBit_47 rfl
theorem f_7_50 (l : za_L) (st : List Value) (w : za_W) : za_n 7 (50, l, st, w) = za_x 7 (.return_) 50 l st w := za_n.at zcc_7 dX1_putBit_50 rfl
theorem f_8_0 (l : za_L) (st : List Value) (w : za_W) : za_n 8 (0, l, st, w) = za_x 8 (.iload_n 1) 0 l st w := za_n.at zcc_8 dX1_put_0 rfl
theorem f_8_1 (l : za_L) (st : List Value) (w : za_W) : za_n 8 (1, l, st, w) = za_go 2 l (.int (1) :: st) w := (za_n.at zcc_8 dX1_put_1 rfl).trans (congrArg (fun x => za_go 2 l (.int x :: st) w) (by decide))
theorem f_8_2 (l : za_L) (st : List Value) (w : za_W) : za_n 8 (2, l, st, w) = za_x 8 (.isub) 2 l st w := za_n.at zcc_8 dX1_put_2 rfl
theorem f_8_3 (l : za_L) (st : List Value) (w : za_W) : za_n 8 (3, l, st, w) = za_x 8 (.istore 4) 3 l st w := za_n.at zcc_8 dX1_put_3 rfl
theorem f_8_5 (l : za_L) (st : List Value) (w : za_W) : za_n 8 (5, l, st, w) = za_x 8 (.iload 4) 5 l st w := za_n.at zcc_8 dX1_put_5 rfl
theorem f_8_7 (l : za_L) (st : List Value) (w : za_W) : za_n 8 (7, l, st, w) = za_x 8 (.ifCond .lt 20) 7 l st w := za_n.at zcc_8 dX1_put_7 rfl
theorem f_8_10 (l : za_L) (st : List Value) (w : za_W) : za_n 8 (10, l, st, w) = za_x 8 (.aload_n 0) 10 l st w := za_n.at zcc_8 dX1_put_10 rfl
theorem f_8_11 (l : za_L) (st : List Value) (w : za_W) : za_n 8 (11, l, st, w) = za_x 8 (.lload_n 2) 11 l st w := za_n.at zcc_8 dX1_put_11 rfl
theorem f_8_12 (l : za_L) (st : List Value) (w : za_W) : za_n 8 (12, l, st, w) = za_x 8 (.iload 4) 12 l st w := za_n.at zcc_8 dX1_put_12 rfl
theorem f_8_14 (l : za_L) (st : List Value) (w : za_W) : za_n 8 (14, l, st, w) = za_x 8 (.lshr) 14 l st w := za_n.at zcc_8 dX1_put_14 rfl
theorem f_8_15 (l : za_L) (st : List Value) (w : za_W) : za_n 8 (15, l, st, w) = za_x 8 (.lconst 1) 15 l st w := za_n.at zcc_8 dX1_put_15 rfl
theorem f_8_16 (l : za_L) (st : List Value) (w : za_W) : za_n 8 (16, l, st, w) = za_x 8 (.land) 16 l st w := za_n.at zcc_8 dX1_put_16 rfl
theorem f_8_17 (l : za_L) (st : List Value) (w : za_W) : za_n 8 (17, l, st, w) = za_x 8 (.l2i) 17 l st w := za_n.at zcc_8 dX1_put_17 rfl
theorem f_8_18 (l : za_L) (st : List Value) (w : za_W) : za_n 8 (18, l, st, w) = za_x 8 (.invokevirtual 29) 18 l st w := za_n.at zcc_8 dX1_put_18 rfl
theorem f_8_21 (l : za_L) (st : List Value) (w : za_W) : za_n 8 (21, l, st, w) = za_x 8 (.iinc 4 (-1)) 21 l st w := za_n.at zcc_8 dX1_put_21 rfl
theorem f_8_24 (l : za_L) (st : List Value) (w : za_W) : za_n 8 (24, l, st, w) = za_go 5 l st w := (za_n.at zcc_8 dX1_put_24 rfl).trans (za_jp.at (by decide))
theorem f_8_27 (l : za_L) (st : List Value) (w : za_W) : za_n 8 (27, l, st, w) = za_x 8 (.return_) 27 l st w := za_n.at zcc_8 dX1_put_27 rfl
theorem f_9_0 (l : za_L) (st : List Value) (w : za_W) : za_n 9 (0, l, st, w) = za_go 1 l (.int (0) :: st) w := (za_n.at zcc_9 dX1_putOnes_0 rfl).trans (congrArg (fun x => za_go 1 l (.int x :: st) w) (by decide))
theorem f_9_1 (l : za_L) (st : List Value) (w : za_W) : za_n 9 (1, l, st, w) = za_x 9 (.istore_n 2) 1 l st w := za_n.at zcc_9 dX1_putOnes_1 rfl
theorem f_9_2 (l : za_L) (st : List Value) (w : za_W) : za_n 9 (2, l, st, w) = za_x 9 (.iload_n 2) 2 l st w := za_n.at zcc_9 dX1_putOnes_2 rfl
theorem f_9_3 (l : za_L) (st : List Value) (w : za_W) : za_n 9 (3, l, st, w) = za_x 9 (.iload_n 1) 3 l st w := za_n.at zcc_9 dX1_putOnes_3 rfl
theorem f_9_4 (l : za_L) (st : List Value) (w : za_W) : za_n 9 (4, l, st, w) = za_x 9 (.if_icmp .ge 14) 4 l st w := za_n.at zcc_9 dX1_putOnes_4 rfl
theorem f_9_7 (l : za_L) (st : List Value) (w : za_W) : za_n 9 (7, l, st, w) = za_x 9 (.aload_n 0) 7 l st w := za_n.at zcc_9 dX1_putOnes_7 rfl
theorem f_9_8 (l : za_L) (st : List Value) (w : za_W) : za_n 9 (8, l, st, w) = za_go 9 l (.int (1) :: st) w := (za_n.at zcc_9 dX1_putOnes_8 rfl).trans (congrArg (fun x => za_go 9 l (.int x :: st) w) (by decide))
theorem f_9_9 (l : za_L) (st : List Value) (w : za_W) : za_n 9 (9, l, st, w) = za_x 9 (.invokevirtual 29) 9 l st w := za_n.at zcc_9 dX1_putOnes_9 rfl
theorem f_9_12 (l : za_L) (st : List Value) (w : za_W) : za_n 9 (12, l, st, w) = za_x 9 (.iinc 2 1) 12 l st w := za_n.at zcc_9 dX1_putOnes_12 rfl
theorem f_9_15 (l : za_L) (st : List Value) (w : za_W) : za_n 9 (15, l, st, w) = za_go 2 l st w := (za_n.at zcc_9 dX1_putOnes_15 rfl).trans (za_jp.at (by decide))
theorem f_9_18 (l : za_L) (st : List Value) (w : za_W) : za_n 9 (18, l, st, w) = za_x 9 (.return_) 18 l st w := za_n.at zcc_9 dX1_putOnes_18 rfl
theorem f_10_0 (l : za_L) (st : List Value) (w : za_W) : za_n 10 (0, l, st, w) = za_go 1 l (.int (0) :: st) w := (za_n.at zcc_10 dX1_fillByte_0 rfl).trans (congrArg (fun x => za_go 1 l (.int x :: st) w) (by decide))
theorem f_10_1 (l : za_L) (st : List Value) (w : za_W) : za_n 10 (1, l, st, w) = za_x 10 (.istore_n 1) 1 l st w := za_n.at zcc_10 dX1_fillByte_1 rfl
theorem f_10_2 (l : za_L) (st : List Value) (w : za_W) : za_n 10 (2, l, st, w) = za_x 10 (.iload_n 1) 2 l st w := za_n.at zcc_10 dX1_fillByte_2 rfl
theorem f_10_3 (l : za_L) (st : List Value) (w : za_W) : za_n 10 (3, l, st, w) = za_go 5 l (.int (7) :: st) w := (za_n.at zcc_10 dX1_fillByte_3 rfl).trans (congrArg (fun x => za_go 5 l (.int x :: st) w) (by decide))
theorem f_10_5 (l : za_L) (st : List Value) (w : za_W) : za_n 10 (5, l, st, w) = za_x 10 (.if_icmp .ge 24) 5 l st w := za_n.at zcc_10 dX1_fillByte_5 rfl
theorem f_10_8 (l : za_L) (st : List Value) (w : za_W) : za_n 10 (8, l, st, w) = za_x 10 (.aload_n 0) 8 l st w := za_n.at zcc_10 dX1_fillByte_8 rfl
theorem f_10_9 (l : za_L) (st : List Value) (w : za_W) : za_n 10 (9, l, st, w) = za_x 10 (.getfield 19) 9 l st w := za_n.at zcc_10 dX1_fillByte_9 rfl
theorem f_10_12 (l : za_L) (st : List Value) (w : za_W) : za_n 10 (12, l, st, w) = za_go 14 l (.int (8) :: st) w := (za_n.at zcc_10 dX1_fillByte_12 rfl).trans (congrArg (fun x => za_go 14 l (.int x :: st) w) (by decide))
theorem f_10_14 (l : za_L) (st : List Value) (w : za_W) : za_n 10 (14, l, st, w) = za_x 10 (.irem) 14 l st w := za_n.at zcc_10 dX1_fillByte_14 rfl
theorem f_10_15 (l : za_L) (st : List Value) (w : za_W) : za_n 10 (15, l, st, w) = za_x 10 (.ifCond .eq 14) 15 l st w := za_n.at zcc_10 dX1_fillByte_15 rfl
theorem f_10_18 (l : za_L) (st : List Value) (w : za_W) : za_n 10 (18, l, st, w) = za_x 10 (.aload_n 0) 18 l st w := za_n.at zcc_10 dX1_fillByte_18 rfl
theorem f_10_19 (l : za_L) (st : List Value) (w : za_W) : za_n 10 (19, l, st, w) = za_go 20 l (.int (0) :: st) w := (za_n.at zcc_10 dX1_fillByte_19 rfl).trans (congrArg (fun x => za_go 20 l (.int x :: st) w) (by decide))
theorem f_10_20 (l : za_L) (st : List Value) (w : za_W) : za_n 10 (20, l, st, w) = za_x 10 (.invokevirtual 29) 20 l st w := za_n.at zcc_10 dX1_fillByte_20 rfl
theorem f_10_23 (l : za_L) (st : List Value) (w : za_W) : za_n 10 (23, l, st, w) = za_x 10 (.iinc 1 1) 23 l st w := za_n.at zcc_10 dX1_fillByte_23 rfl
theorem f_10_26 (l : za_L) (st : List Value) (w : za_W) : za_n 10 (26, l, st, w) = za_go 2 l st w := (za_n.at zcc_10 dX1_fillByte_26 rfl).trans (za_jp.at (by decide))
theorem f_10_29 (l : za_L) (st : List Value) (w : za_W) : za_n 10 (29, l, st, w) = za_x 10 (.return_) 29 l st w := za_n.at zcc_10 dX1_fillByte_29 rfl
theorem f_11_0 (l : za_L) (st : List Value) (w : za_W) : za_n 11 (0, l, st, w) = za_x 11 (.aload_n 0) 0 l st w := za_n.at zcc_11 dX1_allFitted_0 rfl
theorem f_11_1 (l : za_L) (st : List Value) (w : za_W) : za_n 11 (1, l, st, w) = za_x 11 (.getfield 19) 1 l st w := za_n.at zcc_11 dX1_allFitted_1 rfl
theorem f_11_4 (l : za_L) (st : List Value) (w : za_W) : za_n 11 (4, l, st, w) = za_go 6 l (.int (8) :: st) w := (za_n.at zcc_11 dX1_allFitted_4 rfl).trans (congrArg (fun x => za_go 6 l (.int x :: st) w) (by decide))
theorem f_11_6 (l : za_L) (st : List Value) (w : za_W) : za_n 11 (6, l, st, w) = za_x 11 (.aload_n 0) 6 l st w := za_n.at zcc_11 dX1_allFitted_6 rfl
theorem f_11_7 (l : za_L) (st : List Value) (w : za_W) : za_n 11 (7, l, st, w) = za_x 11 (.getfield 7) 7 l st w := za_n.at zcc_11 dX1_allFitted_7 rfl
theorem f_11_10 (l : za_L) (st : List Value) (w : za_W) : za_n 11 (10, l, st, w) = za_x 11 (.getfield 32) 10 l st w := za_n.at zcc_11 dX1_allFitted_10 rfl
theorem f_11_13 (l : za_L) (st : List Value) (w : za_W) : za_n 11 (13, l, st, w) = za_x 11 (.imul) 13 l st w := za_n.at zcc_11 dX1_allFitted_13 rfl
theorem f_11_14 (l : za_L) (st : List Value) (w : za_W) : za_n 11 (14, l, st, w) = za_x 11 (.if_icmp .gt 7) 14 l st w := za_n.at zcc_11 dX1_allFitted_14 rfl
theorem f_11_17 (l : za_L) (st : List Value) (w : za_W) : za_n 11 (17, l, st, w) = za_go 18 l (.int (1) :: st) w := (za_n.at zcc_11 dX1_allFitted_17 rfl).trans (congrArg (fun x => za_go 18 l (.int x :: st) w) (by decide))
theorem f_11_18 (l : za_L) (st : List Value) (w : za_W) : za_n 11 (18, l, st, w) = za_go 22 l st w := (za_n.at zcc_11 dX1_allFitted_18 rfl).trans (za_jp.at (by decide))
theorem f_11_21 (l : za_L) (st : List Value) (w : za_W) : za_n 11 (21, l, st, w) = za_go 22 l (.int (0) :: st) w := (za_n.at zcc_11 dX1_allFitted_21 rfl).trans (congrArg (fun x => za_go 22 l (.int x :: st) w) (by decide))
theorem f_11_22 (l : za_L) (st : List Value) (w : za_W) : za_n 11 (22, l, st, w) = za_x 11 (.ireturn) 22 l st w := za_n.at zcc_11 dX1_allFitted_22 rfl
theorem f_12_0 (l : za_L) (st : List Value) (w : za_W) : za_n 12 (0, l, st, w) = za_x 12 (.aload_n 0) 0 l st w := za_n.at zcc_12 dX2_init_0 rfl
theorem f_12_1 (l : za_L) (st : List Value) (w : za_W) : za_n 12 (1, l, st, w) = za_x 12 (.invokespecial 3) 1 l st w := za_n.at zcc_12 dX2_init_1 rfl
theorem f_12_4 (l : za_L) (st : List Value) (w : za_W) : za_n 12 (4, l, st, w) = za_x 12 (.aload_n 0) 4 l st w := za_n.at zcc_12 dX2_init_4 rfl
theorem f_12_5 (l : za_L) (st : List Value) (w : za_W) : za_n 12 (5, l, st, w) = za_go 7 l (.int (22) :: st) w := (za_n.at zcc_12 dX2_init_5 rfl).trans (congrArg (fun x => za_go 7 l (.int x :: st) w) (by decide))
theorem f_12_7 (l : za_L) (st : List Value) (w : za_W) : za_n 12 (7, l, st, w) = za_x 12 (.newarray .int) 7 l st w := za_n.at zcc_12 dX2_init_7 rfl
theorem f_12_9 (l : za_L) (st : List Value) (w : za_W) : za_n 12 (9, l, st, w) = za_x 12 (.putfield 9) 9 l st w := za_n.at zcc_12 dX2_init_9 rfl
theorem f_12_12 (l : za_L) (st : List Value) (w : za_W) : za_n 12 (12, l, st, w) = za_x 12 (.aload_n 0) 12 l st w := za_n.at zcc_12 dX2_init_12 rfl
theorem f_12_13 (l : za_L) (st : List Value) (w : za_W) : za_n 12 (13, l, st, w) = za_go 15 l (.int (22) :: st) w := (za_n.at zcc_12 dX2_init_13 rfl).trans (congrArg (fun x => za_go 15 l (.int x :: st) w) (by decide))
theorem f_12_15 (l : za_L) (st : List Value) (w : za_W) : za_n 12 (15, l, st, w) = za_x 12 (.newarray .int) 15 l st w := za_n.at zcc_12 dX2_init_15 rfl
theorem f_12_17 (l : za_L) (st : List Value) (w : za_W) : za_n 12 (17, l, st, w) = za_x 12 (.putfield 15) 17 l st w := za_n.at zcc_12 dX2_init_17 rfl
theorem f_12_20 (l : za_L) (st : List Value) (w : za_W) : za_n 12 (20, l, st, w) = za_x 12 (.aload_n 0) 20 l st w := za_n.at zcc_12 dX2_init_20 rfl
theorem f_12_21 (l : za_L) (st : List Value) (w : za_W) : za_n 12 (21, l, st, w) = za_go 23 l (.int (22) :: st) w := (za_n.at zcc_12 dX2_init_21 rfl).trans (congrArg (fun x => za_go 23 l (.int x :: st) w) (by decide))
theorem f_12_23 (l : za_L) (st : List Value) (w : za_W) : za_n 12 (23, l, st, w) = za_x 12 (.newarray .int) 23 l st w := za_n.at zcc_12 dX2_init_23 rfl
theorem f_12_25 (l : za_L) (st : List Value) (w : za_W) : za_n 12 (25, l, st, w) = za_x 12 (.putfield 18) 25 l st w := za_n.at zcc_12 dX2_init_25 rfl
theorem f_12_28 (l : za_L) (st : List Value) (w : za_W) : za_n 12 (28, l, st, w) = za_x 12 (.aload_n 0) 28 l st w := za_n.at zcc_12 dX2_init_28 rfl
theorem f_12_29 (l : za_L) (st : List Value) (w : za_W) : za_n 12 (29, l, st, w) = za_go 32 l (.int (258) :: st) w := (za_n.at zcc_12 dX2_init_29 rfl).trans (congrArg (fun x => za_go 32 l (.int x :: st) w) (by decide))
theorem f_12_32 (l : za_L) (st : List Value) (w : za_W) : za_n 12 (32, l, st, w) = za_x 12 (.newarray .int) 32 l st w := za_n.at zcc_12 dX2_init_32 rfl
theorem f_12_34 (l : za_L) (st : List Value) (w : za_W) : za_n 12 (34, l, st, w) = za_x 12 (.putfield 21) 34 l st w := za_n.at zcc_12 dX2_init_34 rfl
theorem f_12_37 (l : za_L) (st : List Value) (w : za_W) : za_n 12 (37, l, st, w) = za_x 12 (.aload_n 0) 37 l st w := za_n.at zcc_12 dX2_init_37 rfl
theorem f_12_38 (l : za_L) (st : List Value) (w : za_W) : za_n 12 (38, l, st, w) = za_go 41 l (.int (258) :: st) w := (za_n.at zcc_12 dX2_init_38 rfl).trans (congrArg (fun x => za_go 41 l (.int x :: st) w) (by decide))
theorem f_12_41 (l : za_L) (st : List Value) (w : za_W) : za_n 12 (41, l, st, w) = za_x 12 (.newarray .int) 41 l st w := za_n.at zcc_12 dX2_init_41 rfl
theorem f_12_43 (l : za_L) (st : List Value) (w : za_W) : za_n 12 (43, l, st, w) = za_x 12 (.putfield 24) 43 l st w := za_n.at zcc_12 dX2_init_43 rfl
theorem f_12_46 (l : za_L) (st : List Value) (w : za_W) : za_n 12 (46, l, st, w) = za_x 12 (.return_) 46 l st w := za_n.at zcc_12 dX2_init_46 rfl
theorem f_13_0 (l : za_L) (st : List Value) (w : za_W) : za_n 13 (0, l, st, w) = za_go 1 l (.int (0) :: st) w := (za_n.at zcc_13 dX2_make_0 rfl).trans (congrArg (fun x => za_go 1 l (.int x :: st) w) (by decide))
theorem f_13_1 (l : za_L) (st : List Value) (w : za_W) : za_n 13 (1, l, st, w) = za_x 13 (.istore_n 3) 1 l st w := za_n.at zcc_13 dX2_make_1 rfl
theorem f_13_2 (l : za_L) (st : List Value) (w : za_W) : za_n 13 (2, l, st, w) = za_go 3 l (.int (0) :: st) w := (za_n.at zcc_13 dX2_make_2 rfl).trans (congrArg (fun x => za_go 3 l (.int x :: st) w) (by decide))
theorem f_13_3 (l : za_L) (st : List Value) (w : za_W) : za_n 13 (3, l, st, w) = za_x 13 (.istore 4) 3 l st w := za_n.at zcc_13 dX2_make_3 rfl
theorem f_13_5 (l : za_L) (st : List Value) (w : za_W) : za_n 13 (5, l, st, w) = za_go 6 l (.int (1) :: st) w := (za_n.at zcc_13 dX2_make_5 rfl).trans (congrArg (fun x => za_go 6 l (.int x :: st) w) (by decide))
theorem f_13_6 (l : za_L) (st : List Value) (w : za_W) : za_n 13 (6, l, st, w) = za_x 13 (.istore 5) 6 l st w := za_n.at zcc_13 dX2_make_6 rfl
theorem f_13_8 (l : za_L) (st : List Value) (w : za_W) : za_n 13 (8, l, st, w) = za_x 13 (.iload 5) 8 l st w := za_n.at zcc_13 dX2_make_8 rfl
theorem f_13_10 (l : za_L) (st : List Value) (w : za_W) : za_n 13 (10, l, st, w) = za_go 12 l (.int (20) :: st) w := (za_n.at zcc_13 dX2_make_10 rfl).trans (congrArg (fun x => za_go 12 l (.int x :: st) w) (by decide))
theorem f_13_12 (l : za_L) (st : List Value) (w : za_W) : za_n 13 (12, l, st, w) = za_x 13 (.if_icmp .gt 129) 12 l st w := za_n.at zcc_13 dX2_make_12 rfl
theorem f_13_15 (l : za_L) (st : List Value) (w : za_W) : za_n 13 (15, l, st, w) = za_x 13 (.aload_n 0) 15 l st w := za_n.at zcc_13 dX2_make_15 rfl
theorem f_13_16 (l : za_L) (st : List Value) (w : za_W) : za_n 13 (16, l, st, w) = za_x 13 (.getfield 9) 16 l st w := za_n.at zcc_13 dX2_make_16 rfl
theorem f_13_19 (l : za_L) (st : List Value) (w : za_W) : za_n 13 (19, l, st, w) = za_x 13 (.iload 5) 19 l st w := za_n.at zcc_13 dX2_make_19 rfl
theorem f_13_21 (l : za_L) (st : List Value) (w : za_W) : za_n 13 (21, l, st, w) = za_x 13 (.iload 4) 21 l st w := za_n.at zcc_13 dX2_make_21 rfl
theorem f_13_23 (l : za_L) (st : List Value) (w : za_W) : za_n 13 (23, l, st, w) = za_x 13 (.iastore) 23 l st w := za_n.at zcc_13 dX2_make_23 rfl
theorem f_13_24 (l : za_L) (st : List Value) (w : za_W) : za_n 13 (24, l, st, w) = za_x 13 (.aload_n 0) 24 l st w := za_n.at zcc_13 dX2_make_24 rfl
theorem f_13_25 (l : za_L) (st : List Value) (w : za_W) : za_n 13 (25, l, st, w) = za_x 13 (.getfield 18) 25 l st w := za_n.at zcc_13 dX2_make_25 rfl
theorem f_13_28 (l : za_L) (st : List Value) (w : za_W) : za_n 13 (28, l, st, w) = za_x 13 (.iload 5) 28 l st w := za_n.at zcc_13 dX2_make_28 rfl
theorem f_13_30 (l : za_L) (st : List Value) (w : za_W) : za_n 13 (30, l, st, w) = za_x 13 (.iload_n 3) 30 l st w := za_n.at zcc_13 dX2_make_30 rfl
theorem f_13_31 (l : za_L) (st : List Value) (w : za_W) : za_n 13 (31, l, st, w) = za_x 13 (.iastore) 31 l st w := za_n.at zcc_13 dX2_make_31 rfl
theorem f_13_32 (l : za_L) (st : List Value) (w : za_W) : za_n 13 (32, l, st, w) = za_go 33 l (.int (0) :: st) w := (za_n.at zcc_13 dX2_make_32 rfl).trans (congrArg (fun x => za_go 33 l (.int x :: st) w) (by decide))
theorem f_13_33 (l : za_L) (st : List Value) (w : za_W) : za_n 13 (33, l, st, w) = za_x 13 (.istore 6) 33 l st w := za_n.at zcc_13 dX2_make_33 rfl
theorem f_13_35 (l : za_L) (st : List Value) (w : za_W) : za_n 13 (35, l, st, w) = za_x 13 (.iload 6) 35 l st w := za_n.at zcc_13 dX2_make_35 rfl
theorem f_13_37 (l : za_L) (st : List Value) (w : za_W) : za_n 13 (37, l, st, w) = za_x 13 (.iload_n 2) 37 l st w := za_n.at zcc_13 dX2_make_37 rfl
theorem f_13_38 (l : za_L) (st : List Value) (w : za_W) : za_n 13 (38, l, st, w) = za_x 13 (.if_icmp .ge 62) 38 l st w := za_n.at zcc_13 dX2_make_38 rfl
theorem f_13_41 (l : za_L) (st : List Value) (w : za_W) : za_n 13 (41, l, st, w) = za_x 13 (.aload_n 1) 41 l st w := za_n.at zcc_13 dX2_make_41 rfl
theorem f_13_42 (l : za_L) (st : List Value) (w : za_W) : za_n 13 (42, l, st, w) = za_x 13 (.iload 6) 42 l st w := za_n.at zcc_13 dX2_make_42 rfl
theorem f_13_44 (l : za_L) (st : List Value) (w : za_W) : za_n 13 (44, l, st, w) = za_x 13 (.iaload) 44 l st w := za_n.at zcc_13 dX2_make_44 rfl
theorem f_13_45 (l : za_L) (st : List Value) (w : za_W) : za_n 13 (45, l, st, w) = za_x 13 (.iload 5) 45 l st w := za_n.at zcc_13 dX2_make_45 rfl
theorem f_13_47 (l : za_L) (st : List Value) (w : za_W) : za_n 13 (47, l, st, w) = za_x 13 (.if_icmp .ne 47) 47 l st w := za_n.at zcc_13 dX2_make_47 rfl
theorem f_13_50 (l : za_L) (st : List Value) (w : za_W) : za_n 13 (50, l, st, w) = za_x 13 (.iload_n 3) 50 l st w := za_n.at zcc_13 dX2_make_50 rfl
theorem f_13_51 (l : za_L) (st : List Value) (w : za_W) : za_n 13 (51, l, st, w) = za_x 13 (.aload_n 0) 51 l st w := za_n.at zcc_13 dX2_make_51 rfl
theorem f_13_52 (l : za_L) (st : List Value) (w : za_W) : za_n 13 (52, l, st, w) = za_x 13 (.getfield 21) 52 l st w := za_n.at zcc_13 dX2_make_52 rfl
theorem f_13_55 (l : za_L) (st : List Value) (w : za_W) : za_n 13 (55, l, st, w) = za_x 13 (.arraylength) 55 l st w := za_n.at zcc_13 dX2_make_55 rfl
theorem f_13_56 (l : za_L) (st : List Value) (w : za_W) : za_n 13 (56, l, st, w) = za_x 13 (.if_icmp .ge 38) 56 l st w := za_n.at zcc_13 dX2_make_56 rfl
theorem f_13_59 (l : za_L) (st : List Value) (w : za_W) : za_n 13 (59, l, st, w) = za_x 13 (.aload_n 0) 59 l st w := za_n.at zcc_13 dX2_make_59 rfl
theorem f_13_60 (l : za_L) (st : List Value) (w : za_W) : za_n 13 (60, l, st, w) = za_x 13 (.getfield 24) 60 l st w := za_n.at zcc_13 dX2_make_60 rfl
theorem f_13_63 (l : za_L) (st : List Value) (w : za_W) : za_n 13 (63, l, st, w) = za_x 13 (.iload 6) 63 l st w := za_n.at zcc_13 dX2_make_63 rfl
theorem f_13_65 (l : za_L) (st : List Value) (w : za_W) : za_n 13 (65, l, st, w) = za_x 13 (.aload_n 0) 65 l st w := za_n.at zcc_13 dX2_make_65 rfl
theorem f_13_66 (l : za_L) (st : List Value) (w : za_W) : za_n 13 (66, l, st, w) = za_x 13 (.getfield 9) 66 l st w := za_n.at zcc_13 dX2_make_66 rfl
theorem f_13_69 (l : za_L) (st : List Value) (w : za_W) : za_n 13 (69, l, st, w) = za_x 13 (.iload 5) 69 l st w := za_n.at zcc_13 dX2_make_69 rfl
theorem f_13_71 (l : za_L) (st : List Value) (w : za_W) : za_n 13 (71, l, st, w) = za_x 13 (.iaload) 71 l st w := za_n.at zcc_13 dX2_make_71 rfl
theorem f_13_72 (l : za_L) (st : List Value) (w : za_W) : za_n 13 (72, l, st, w) = za_x 13 (.iload_n 3) 72 l st w := za_n.at zcc_13 dX2_make_72 rfl
theorem f_13_73 (l : za_L) (st : List Value) (w : za_W) : za_n 13 (73, l, st, w) = za_x 13 (.iadd) 73 l st w := za_n.at zcc_13 dX2_make_73 rfl
theorem f_13_74 (l : za_L) (st : List Value) (w : za_W) : za_n 13 (74, l, st, w) = za_x 13 (.aload_n 0) 74 l st w := za_n.at zcc_13 dX2_make_74 rfl
theorem f_13_75 (l : za_L) (st : List Value) (w : za_W) : za_n 13 (75, l, st, w) = za_x 13 (.getfield 18) 75 l st w := za_n.at zcc_13 dX2_make_75 rfl
theorem f_13_78 (l : za_L) (st : List Value) (w : za_W) : za_n 13 (78, l, st, w) = za_x 13 (.iload 5) 78 l st w := za_n.at zcc_13 dX2_make_78 rfl
theorem f_13_80 (l : za_L) (st : List Value) (w : za_W) : za_n 13 (80, l, st, w) = za_x 13 (.iaload) 80 l st w := za_n.at zcc_13 dX2_make_80 rfl
theorem f_13_81 (l : za_L) (st : List Value) (w : za_W) : za_n 13 (81, l, st, w) = za_x 13 (.isub) 81 l st w := za_n.at zcc_13 dX2_make_81 rfl
theorem f_13_82 (l : za_L) (st : List Value) (w : za_W) : za_n 13 (82, l, st, w) = za_x 13 (.iastore) 82 l st w := za_n.at zcc_13 dX2_make_82 rfl
theorem f_13_83 (l : za_L) (st : List Value) (w : za_W) : za_n 13 (83, l, st, w) = za_x 13 (.aload_n 0) 83 l st w := za_n.at zcc_13 dX2_make_83 rfl
theorem f_13_84 (l : za_L) (st : List Value) (w : za_W) : za_n 13 (84, l, st, w) = za_x 13 (.getfield 21) 84 l st w := za_n.at zcc_13 dX2_make_84 rfl
theorem f_13_87 (l : za_L) (st : List Value) (w : za_W) : za_n 13 (87, l, st, w) = za_x 13 (.iload_n 3) 87 l st w := za_n.at zcc_13 dX2_make_87 rfl
theorem f_13_88 (l : za_L) (st : List Value) (w : za_W) : za_n 13 (88, l, st, w) = za_x 13 (.iload 6) 88 l st w := za_n.at zcc_13 dX2_make_88 rfl
theorem f_13_90 (l : za_L) (st : List Value) (w : za_W) : za_n 13 (90, l, st, w) = za_x 13 (.iastore) 90 l st w := za_n.at zcc_13 dX2_make_90 rfl
theorem f_13_91 (l : za_L) (st : List Value) (w : za_W) : za_n 13 (91, l, st, w) = za_x 13 (.iinc 3 1) 91 l st w := za_n.at zcc_13 dX2_make_91 rfl
theorem f_13_94 (l : za_L) (st : List Value) (w : za_W) : za_n 13 (94, l, st, w) = za_x 13 (.iinc 6 1) 94 l st w := za_n.at zcc_13 dX2_make_94 rfl
theorem f_13_97 (l : za_L) (st : List Value) (w : za_W) : za_n 13 (97, l, st, w) = za_go 35 l st w := (za_n.at zcc_13 dX2_make_97 rfl).trans (za_jp.at (by decide))
theorem f_13_100 (l : za_L) (st : List Value) (w : za_W) : za_n 13 (100, l, st, w) = za_x 13 (.aload_n 0) 100 l st w := za_n.at zcc_13 dX2_make_100 rfl
theorem f_13_101 (l : za_L) (st : List Value) (w : za_W) : za_n 13 (101, l, st, w) = za_x 13 (.getfield 15) 101 l st w := za_n.at zcc_13 dX2_make_101 rfl
theorem f_13_104 (l : za_L) (st : List Value) (w : za_W) : za_n 13 (104, l, st, w) = za_x 13 (.iload 5) 104 l st w := za_n.at zcc_13 dX2_make_104 rfl
theorem f_13_106 (l : za_L) (st : List Value) (w : za_W) : za_n 13 (106, l, st, w) = za_x 13 (.iload_n 3) 106 l st w := za_n.at zcc_13 dX2_make_106 rfl
theorem f_13_107 (l : za_L) (st : List Value) (w : za_W) : za_n 13 (107, l, st, w) = za_x 13 (.aload_n 0) 107 l st w := za_n.at zcc_13 dX2_make_107 rfl
theorem f_13_108 (l : za_L) (st : List Value) (w : za_W) : za_n 13 (108, l, st, w) = za_x 13 (.getfield 18) 108 l st w := za_n.at zcc_13 dX2_make_108 rfl
theorem f_13_111 (l : za_L) (st : List Value) (w : za_W) : za_n 13 (111, l, st, w) = za_x 13 (.iload 5) 111 l st w := za_n.at zcc_13 dX2_make_111 rfl
theorem f_13_113 (l : za_L) (st : List Value) (w : za_W) : za_n 13 (113, l, st, w) = za_x 13 (.iaload) 113 l st w := za_n.at zcc_13 dX2_make_113 rfl
theorem f_13_114 (l : za_L) (st : List Value) (w : za_W) : za_n 13 (114, l, st, w) = za_x 13 (.isub) 114 l st w := za_n.at zcc_13 dX2_make_114 rfl
theorem f_13_115 (l : za_L) (st : List Value) (w : za_W) : za_n 13 (115, l, st, w) = za_x 13 (.iastore) 115 l st w := za_n.at zcc_13 dX2_make_115 rfl
theorem f_13_116 (l : za_L) (st : List Value) (w : za_W) : za_n 13 (116, l, st, w) = za_go 117 l (.int (2) :: st) w := (za_n.at zcc_13 dX2_make_116 rfl).trans (congrArg (fun x => za_go 117 l (.int x :: st) w) (by decide))
theorem f_13_117 (l : za_L) (st : List Value) (w : za_W) : za_n 13 (117, l, st, w) = za_x 13 (.aload_n 0) 117 l st w := za_n.at zcc_13 dX2_make_117 rfl
theorem f_13_118 (l : za_L) (st : List Value) (w : za_W) : za_n 13 (118, l, st, w) = za_x 13 (.getfield 9) 118 l st w := za_n.at zcc_13 dX2_make_118 rfl
theorem f_13_121 (l : za_L) (st : List Value) (w : za_W) : za_n 13 (121, l, st, w) = za_x 13 (.iload 5) 121 l st w := za_n.at zcc_13 dX2_make_121 rfl
theorem f_13_123 (l : za_L) (st : List Value) (w : za_W) : za_n 13 (123, l, st, w) = za_x 13 (.iaload) 123 l st w := za_n.at zcc_13 dX2_make_123 rfl
theorem f_13_124 (l : za_L) (st : List Value) (w : za_W) : za_n 13 (124, l, st, w) = za_x 13 (.aload_n 0) 124 l st w := za_n.at zcc_13 dX2_make_124 rfl
theorem f_13_125 (l : za_L) (st : List Value) (w : za_W) : za_n 13 (125, l, st, w) = za_x 13 (.getfield 15) 125 l st w := za_n.at zcc_13 dX2_make_125 rfl
theorem f_13_128 (l : za_L) (st : List Value) (w : za_W) : za_n 13 (128, l, st, w) = za_x 13 (.iload 5) 128 l st w := za_n.at zcc_13 dX2_make_128 rfl
theorem f_13_130 (l : za_L) (st : List Value) (w : za_W) : za_n 13 (130, l, st, w) = za_x 13 (.iaload) 130 l st w := za_n.at zcc_13 dX2_make_130 rfl
theorem f_13_131 (l : za_L) (st : List Value) (w : za_W) : za_n 13 (131, l, st, w) = za_x 13 (.iadd) 131 l st w := za_n.at zcc_13 dX2_make_131 rfl
theorem f_13_132 (l : za_L) (st : List Value) (w : za_W) : za_n 13 (132, l, st, w) = za_x 13 (.imul) 132 l st w := za_n.at zcc_13 dX2_make_132 rfl
theorem f_13_133 (l : za_L) (st : List Value) (w : za_W) : za_n 13 (133, l, st, w) = za_x 13 (.istore 4) 133 l st w := za_n.at zcc_13 dX2_make_133 rfl
theorem f_13_135 (l : za_L) (st : List Value) (w : za_W) : za_n 13 (135, l, st, w) = za_x 13 (.iinc 5 1) 135 l st w := za_n.at zcc_13 dX2_make_135 rfl
theorem f_13_138 (l : za_L) (st : List Value) (w : za_W) : za_n 13 (138, l, st, w) = za_go 8 l st w := (za_n.at zcc_13 dX2_make_138 rfl).trans (za_jp.at (by decide))
theorem f_13_141 (l : za_L) (st : List Value) (w : za_W) : za_n 13 (141, l, st, w) = za_x 13 (.return_) 141 l st w := za_n.at zcc_13 dX2_make_141 rfl
theorem f_14_0 (l : za_L) (st : List Value) (w : za_W) : za_n 14 (0, l, st, w) = za_go 1 l (.int (0) :: st) w := (za_n.at zcc_14 dX2_read_0 rfl).trans (congrArg (fun x => za_go 1 l (.int x :: st) w) (by decide))
theorem f_14_1 (l : za_L) (st : List Value) (w : za_W) : za_n 14 (1, l, st, w) = za_x 14 (.istore_n 2) 1 l st w := za_n.at zcc_14 dX2_read_1 rfl
theorem f_14_2 (l : za_L) (st : List Value) (w : za_W) : za_n 14 (2, l, st, w) = za_go 3 l (.int (1) :: st) w := (za_n.at zcc_14 dX2_read_2 rfl).trans (congrArg (fun x => za_go 3 l (.int x :: st) w) (by decide))
theorem f_14_3 (l : za_L) (st : List Value) (w : za_W) : za_n 14 (3, l, st, w) = za_x 14 (.istore_n 3) 3 l st w := za_n.at zcc_14 dX2_read_3 rfl
theorem f_14_4 (l : za_L) (st : List Value) (w : za_W) : za_n 14 (4, l, st, w) = za_x 14 (.iload_n 3) 4 l st w := za_n.at zcc_14 dX2_read_4 rfl
theorem f_14_5 (l : za_L) (st : List Value) (w : za_W) : za_n 14 (5, l, st, w) = za_go 7 l (.int (20) :: st) w := (za_n.at zcc_14 dX2_read_5 rfl).trans (congrArg (fun x => za_go 7 l (.int x :: st) w) (by decide))
theorem f_14_7 (l : za_L) (st : List Value) (w : za_W) : za_n 14 (7, l, st, w) = za_x 14 (.if_icmp .gt 71) 7 l st w := za_n.at zcc_14 dX2_read_7 rfl
theorem f_14_10 (l : za_L) (st : List Value) (w : za_W) : za_n 14 (10, l, st, w) = za_x 14 (.aload_n 1) 10 l st w := za_n.at zcc_14 dX2_read_10 rfl
theorem f_14_11 (l : za_L) (st : List Value) (w : za_W) : za_n 14 (11, l, st, w) = za_x 14 (.invokevirtual 27) 11 l st w := za_n.at zcc_14 dX2_read_11 rfl
theorem f_14_14 (l : za_L) (st : List Value) (w : za_W) : za_n 14 (14, l, st, w) = za_x 14 (.istore 4) 14 l st w := za_n.at zcc_14 dX2_read_14 rfl
theorem f_14_16 (l : za_L) (st : List Value) (w : za_W) : za_n 14 (16, l, st, w) = za_x 14 (.iload 4) 16 l st w := za_n.at zcc_14 dX2_read_16 rfl
theorem f_14_18 (l : za_L) (st : List Value) (w : za_W) : za_n 14 (18, l, st, w) = za_go 19 l (.int (-1) :: st) w := (za_n.at zcc_14 dX2_read_18 rfl).trans (congrArg (fun x => za_go 19 l (.int x :: st) w) (by decide))
theorem f_14_19 (l : za_L) (st : List Value) (w : za_W) : za_n 14 (19, l, st, w) = za_x 14 (.if_icmp .ne 5) 19 l st w := za_n.at zcc_14 dX2_read_19 rfl
theorem f_14_22 (l : za_L) (st : List Value) (w : za_W) : za_n 14 (22, l, st, w) = za_go 23 l (.int (-1) :: st) w := (za_n.at zcc_14 dX2_read_22 rfl).trans (congrArg (fun x => za_go 23 l (.int x :: st) w) (by decide))
theorem f_14_23 (l : za_L) (st : List Value) (w : za_W) : za_n 14 (23, l, st, w) = za_x 14 (.ireturn) 23 l st w := za_n.at zcc_14 dX2_read_23 rfl
theorem f_14_24 (l : za_L) (st : List Value) (w : za_W) : za_n 14 (24, l, st, w) = za_go 25 l (.int (2) :: st) w := (za_n.at zcc_14 dX2_read_24 rfl).trans (congrArg (fun x => za_go 25 l (.int x :: st) w) (by decide))
theorem f_14_25 (l : za_L) (st : List Value) (w : za_W) : za_n 14 (25, l, st, w) = za_x 14 (.iload_n 2) 25 l st w := za_n.at zcc_14 dX2_read_25 rfl
theorem f_14_26 (l : za_L) (st : List Value) (w : za_W) : za_n 14 (26, l, st, w) = za_x 14 (.imul) 26 l st w := za_n.at zcc_14 dX2_read_26 rfl
theorem f_14_27 (l : za_L) (st : List Value) (w : za_W) : za_n 14 (27, l, st, w) = za_x 14 (.iload 4) 27 l st w := za_n.at zcc_14 dX2_read_27 rfl
theorem f_14_29 (l : za_L) (st : List Value) (w : za_W) : za_n 14 (29, l, st, w) = za_x 14 (.iadd) 29 l st w := za_n.at zcc_14 dX2_read_29 rfl
theorem f_14_30 (l : za_L) (st : List Value) (w : za_W) : za_n 14 (30, l, st, w) = za_x 14 (.istore_n 2) 30 l st w := za_n.at zcc_14 dX2_read_30 rfl
theorem f_14_31 (l : za_L) (st : List Value) (w : za_W) : za_n 14 (31, l, st, w) = za_x 14 (.iload_n 2) 31 l st w := za_n.at zcc_14 dX2_read_31 rfl
theorem f_14_32 (l : za_L) (st : List Value) (w : za_W) : za_n 14 (32, l, st, w) = za_x 14 (.aload_n 0) 32 l st w := za_n.at zcc_14 dX2_read_32 rfl
theorem f_14_33 (l : za_L) (st : List Value) (w : za_W) : za_n 14 (33, l, st, w) = za_x 14 (.getfield 9) 33 l st w := za_n.at zcc_14 dX2_read_33 rfl
theorem f_14_36 (l : za_L) (st : List Value) (w : za_W) : za_n 14 (36, l, st, w) = za_x 14 (.iload_n 3) 36 l st w := za_n.at zcc_14 dX2_read_36 rfl
theorem f_14_37 (l : za_L) (st : List Value) (w : za_W) : za_n 14 (37, l, st, w) = za_x 14 (.iaload) 37 l st w := za_n.at zcc_14 dX2_read_37 rfl
theorem f_14_38 (l : za_L) (st : List Value) (w : za_W) : za_n 14 (38, l, st, w) = za_x 14 (.isub) 38 l st w := za_n.at zcc_14 dX2_read_38 rfl
theorem f_14_39 (l : za_L) (st : List Value) (w : za_W) : za_n 14 (39, l, st, w) = za_x 14 (.istore 5) 39 l st w := za_n.at zcc_14 dX2_read_39 rfl
theorem f_14_41 (l : za_L) (st : List Value) (w : za_W) : za_n 14 (41, l, st, w) = za_x 14 (.iload 5) 41 l st w := za_n.at zcc_14 dX2_read_41 rfl
theorem f_14_43 (l : za_L) (st : List Value) (w : za_W) : za_n 14 (43, l, st, w) = za_x 14 (.ifCond .lt 29) 43 l st w := za_n.at zcc_14 dX2_read_43 rfl
theorem f_14_46 (l : za_L) (st : List Value) (w : za_W) : za_n 14 (46, l, st, w) = za_x 14 (.iload 5) 46 l st w := za_n.at zcc_14 dX2_read_46 rfl
theorem f_14_48 (l : za_L) (st : List Value) (w : za_W) : za_n 14 (48, l, st, w) = za_x 14 (.aload_n 0) 48 l st w := za_n.at zcc_14 dX2_read_48 rfl
theorem f_14_49 (l : za_L) (st : List Value) (w : za_W) : za_n 14 (49, l, st, w) = za_x 14 (.getfield 15) 49 l st w := za_n.at zcc_14 dX2_read_49 rfl
theorem f_14_52 (l : za_L) (st : List Value) (w : za_W) : za_n 14 (52, l, st, w) = za_x 14 (.iload_n 3) 52 l st w := za_n.at zcc_14 dX2_read_52 rfl
theorem f_14_53 (l : za_L) (st : List Value) (w : za_W) : za_n 14 (53, l, st, w) = za_x 14 (.iaload) 53 l st w := za_n.at zcc_14 dX2_read_53 rfl
theorem f_14_54 (l : za_L) (st : List Value) (w : za_W) : za_n 14 (54, l, st, w) = za_x 14 (.if_icmp .ge 18) 54 l st w := za_n.at zcc_14 dX2_read_54 rfl
theorem f_14_57 (l : za_L) (st : List Value) (w : za_W) : za_n 14 (57, l, st, w) = za_x 14 (.aload_n 0) 57 l st w := za_n.at zcc_14 dX2_read_57 rfl
theorem f_14_58 (l : za_L) (st : List Value) (w : za_W) : za_n 14 (58, l, st, w) = za_x 14 (.getfield 21) 58 l st w := za_n.at zcc_14 dX2_read_58 rfl
theorem f_14_61 (l : za_L) (st : List Value) (w : za_W) : za_n 14 (61, l, st, w) = za_x 14 (.aload_n 0) 61 l st w := za_n.at zcc_14 dX2_read_61 rfl
theorem f_14_62 (l : za_L) (st : List Value) (w : za_W) : za_n 14 (62, l, st, w) = za_x 14 (.getfield 18) 62 l st w := za_n.at zcc_14 dX2_read_62 rfl
theorem f_14_65 (l : za_L) (st : List Value) (w : za_W) : za_n 14 (65, l, st, w) = za_x 14 (.iload_n 3) 65 l st w := za_n.at zcc_14 dX2_read_65 rfl
theorem f_14_66 (l : za_L) (st : List Value) (w : za_W) : za_n 14 (66, l, st, w) = za_x 14 (.iaload) 66 l st w := za_n.at zcc_14 dX2_read_66 rfl
theorem f_14_67 (l : za_L) (st : List Value) (w : za_W) : za_n 14 (67, l, st, w) = za_x 14 (.iload 5) 67 l st w := za_n.at zcc_14 dX2_read_67 rfl
theorem f_14_69 (l : za_L) (st : List Value) (w : za_W) : za_n 14 (69, l, st, w) = za_x 14 (.iadd) 69 l st w := za_n.at zcc_14 dX2_read_69 rfl
theorem f_14_70 (l : za_L) (st : List Value) (w : za_W) : za_n 14 (70, l, st, w) = za_x 14 (.iaload) 70 l st w := za_n.at zcc_14 dX2_read_70 rfl
theorem f_14_71 (l : za_L) (st : List Value) (w : za_W) : za_n 14 (71, l, st, w) = za_x 14 (.ireturn) 71 l st w := za_n.at zcc_14 dX2_read_71 rfl
theorem f_14_72 (l : za_L) (st : List Value) (w : za_W) : za_n 14 (72, l, st, w) = za_x 14 (.iinc 3 1) 72 l st w := za_n.at zcc_14 dX2_read_72 rfl
theorem f_14_75 (l : za_L) (st : List Value) (w : za_W) : za_n 14 (75, l, st, w) = za_go 4 l st w := (za_n.at zcc_14 dX2_read_75 rfl).trans (za_jp.at (by decide))
theorem f_14_78 (l : za_L) (st : List Value) (w : za_W) : za_n 14 (78, l, st, w) = za_go 80 l (.int (-2) :: st) w := (za_n.at zcc_14 dX2_read_78 rfl).trans (congrArg (fun x => za_go 80 l (.int x :: st) w) (by decide))
theorem f_14_80 (l : za_L) (st : List Value) (w : za_W) : za_n 14 (80, l, st, w) = za_x 14 (.ireturn) 80 l st w := za_n.at zcc_14 dX2_read_80 rfl
theorem f_15_0 (l : za_L) (st : List Value) (w : za_W) : za_n 15 (0, l, st, w) = za_x 15 (.aload_n 0) 0 l st w := za_n.at zcc_15 dX3_init_0 rfl
theorem f_15_1 (l : za_L) (st : List Value) (w : za_W) : za_n 15 (1, l, st, w) = za_x 15 (.invokespecial 3) 1 l st w := za_n.at zcc_15 dX3_init_1 rfl
theorem f_15_4 (l : za_L) (st : List Value) (w : za_W) : za_n 15 (4, l, st, w) = za_x 15 (.aload_n 0) 4 l st w := za_n.at zcc_15 dX3_init_4 rfl
theorem f_15_5 (l : za_L) (st : List Value) (w : za_W) : za_n 15 (5, l, st, w) = za_go 8 l (.int (12000) :: st) w := (za_n.at zcc_15 dX3_init_5 rfl).trans (congrArg (fun x => za_go 8 l (.int x :: st) w) (by decide))
theorem f_15_8 (l : za_L) (st : List Value) (w : za_W) : za_n 15 (8, l, st, w) = za_x 15 (.newarray .byte) 8 l st w := za_n.at zcc_15 dX3_init_8 rfl
theorem f_15_10 (l : za_L) (st : List Value) (w : za_W) : za_n 15 (10, l, st, w) = za_x 15 (.putfield 9) 10 l st w := za_n.at zcc_15 dX3_init_10 rfl
theorem f_15_13 (l : za_L) (st : List Value) (w : za_W) : za_n 15 (13, l, st, w) = za_x 15 (.aload_n 0) 13 l st w := za_n.at zcc_15 dX3_init_13 rfl
theorem f_15_14 (l : za_L) (st : List Value) (w : za_W) : za_n 15 (14, l, st, w) = za_go 16 l (.int (6) :: st) w := (za_n.at zcc_15 dX3_init_14 rfl).trans (congrArg (fun x => za_go 16 l (.int x :: st) w) (by decide))
theorem f_15_16 (l : za_L) (st : List Value) (w : za_W) : za_n 15 (16, l, st, w) = za_go 19 l (.int (258) :: st) w := (za_n.at zcc_15 dX3_init_16 rfl).trans (congrArg (fun x => za_go 19 l (.int x :: st) w) (by decide))
theorem f_15_19 (l : za_L) (st : List Value) (w : za_W) : za_n 15 (19, l, st, w) = za_x 15 (.multianewarray 15 2) 19 l st w := za_n.at zcc_15 dX3_init_19 rfl
theorem f_15_23 (l : za_L) (st : List Value) (w : za_W) : za_n 15 (23, l, st, w) = za_x 15 (.putfield 17) 23 l st w := za_n.at zcc_15 dX3_init_23 rfl
theorem f_15_26 (l : za_L) (st : List Value) (w : za_W) : za_n 15 (26, l, st, w) = za_x 15 (.return_) 26 l st w := za_n.at zcc_15 dX3_init_26 rfl
theorem f_16_0 (l : za_L) (st : List Value) (w : za_W) : za_n 16 (0, l, st, w) = za_x 16 (.aload_n 0) 0 l st w := za_n.at zcc_16 dX3_forget_0 rfl
theorem f_16_1 (l : za_L) (st : List Value) (w : za_W) : za_n 16 (1, l, st, w) = za_go 2 l (.int (0) :: st) w := (za_n.at zcc_16 dX3_forget_1 rfl).trans (congrArg (fun x => za_go 2 l (.int x :: st) w) (by decide))
theorem f_16_2 (l : za_L) (st : List Value) (w : za_W) : za_n 16 (2, l, st, w) = za_x 16 (.putfield 20) 2 l st w := za_n.at zcc_16 dX3_forget_2 rfl
theorem f_16_5 (l : za_L) (st : List Value) (w : za_W) : za_n 16 (5, l, st, w) = za_x 16 (.aload_n 0) 5 l st w := za_n.at zcc_16 dX3_forget_5 rfl
theorem f_16_6 (l : za_L) (st : List Value) (w : za_W) : za_n 16 (6, l, st, w) = za_go 7 l (.int (0) :: st) w := (za_n.at zcc_16 dX3_forget_6 rfl).trans (congrArg (fun x => za_go 7 l (.int x :: st) w) (by decide))
theorem f_16_7 (l : za_L) (st : List Value) (w : za_W) : za_n 16 (7, l, st, w) = za_x 16 (.putfield 24) 7 l st w := za_n.at zcc_16 dX3_forget_7 rfl
theorem f_16_10 (l : za_L) (st : List Value) (w : za_W) : za_n 16 (10, l, st, w) = za_x 16 (.aload_n 0) 10 l st w := za_n.at zcc_16 dX3_forget_10 rfl
theorem f_16_11 (l : za_L) (st : List Value) (w : za_W) : za_n 16 (11, l, st, w) = za_go 12 l (.int (0) :: st) w := (za_n.at zcc_16 dX3_forget_11 rfl).trans (congrArg (fun x => za_go 12 l (.int x :: st) w) (by decide))
theorem f_16_12 (l : za_L) (st : List Value) (w : za_W) : za_n 16 (12, l, st, w) = za_x 16 (.putfield 27) 12 l st w := za_n.at zcc_16 dX3_forget_12 rfl
theorem f_16_15 (l : za_L) (st : List Value) (w : za_W) : za_n 16 (15, l, st, w) = za_x 16 (.return_) 15 l st w := za_n.at zcc_16 dX3_forget_15 rfl
theorem f_17_0 (l : za_L) (st : List Value) (w : za_W) : za_n 17 (0, l, st, w) = za_x 17 (.iload_n 1) 0 l st w := za_n.at zcc_17 dX3_hasChoice_0 rfl
theorem f_17_1 (l : za_L) (st : List Value) (w : za_W) : za_n 17 (1, l, st, w) = za_x 17 (.ifCond .lt 24) 1 l st w := za_n.at zcc_17 dX3_hasChoice_1 rfl
theorem f_17_4 (l : za_L) (st : List Value) (w : za_W) : za_n 17 (4, l, st, w) = za_x 17 (.iload_n 1) 4 l st w := za_n.at zcc_17 dX3_hasChoice_4 rfl
theorem f_17_5 (l : za_L) (st : List Value) (w : za_W) : za_n 17 (5, l, st, w) = za_x 17 (.aload_n 0) 5 l st w := za_n.at zcc_17 dX3_hasChoice_5 rfl
theorem f_17_6 (l : za_L) (st : List Value) (w : za_W) : za_n 17 (6, l, st, w) = za_x 17 (.getfield 24) 6 l st w := za_n.at zcc_17 dX3_hasChoice_6 rfl
theorem f_17_9 (l : za_L) (st : List Value) (w : za_W) : za_n 17 (9, l, st, w) = za_x 17 (.if_icmp .ge 16) 9 l st w := za_n.at zcc_17 dX3_hasChoice_9 rfl
theorem f_17_12 (l : za_L) (st : List Value) (w : za_W) : za_n 17 (12, l, st, w) = za_x 17 (.iload_n 1) 12 l st w := za_n.at zcc_17 dX3_hasChoice_12 rfl
theorem f_17_13 (l : za_L) (st : List Value) (w : za_W) : za_n 17 (13, l, st, w) = za_x 17 (.aload_n 0) 13 l st w := za_n.at zcc_17 dX3_hasChoice_13 rfl
theorem f_17_14 (l : za_L) (st : List Value) (w : za_W) : za_n 17 (14, l, st, w) = za_x 17 (.getfield 9) 14 l st w := za_n.at zcc_17 dX3_hasChoice_14 rfl
theorem f_17_17 (l : za_L) (st : List Value) (w : za_W) : za_n 17 (17, l, st, w) = za_x 17 (.arraylength) 17 l st w := za_n.at zcc_17 dX3_hasChoice_17 rfl
theorem f_17_18 (l : za_L) (st : List Value) (w : za_W) : za_n 17 (18, l, st, w) = za_x 17 (.if_icmp .ge 7) 18 l st w := za_n.at zcc_17 dX3_hasChoice_18 rfl
theorem f_17_21 (l : za_L) (st : List Value) (w : za_W) : za_n 17 (21, l, st, w) = za_go 22 l (.int (1) :: st) w := (za_n.at zcc_17 dX3_hasChoice_21 rfl).trans (congrArg (fun x => za_go 22 l (.int x :: st) w) (by decide))
theorem f_17_22 (l : za_L) (st : List Value) (w : za_W) : za_n 17 (22, l, st, w) = za_go 26 l st w := (za_n.at zcc_17 dX3_hasChoice_22 rfl).trans (za_jp.at (by decide))
theorem f_17_25 (l : za_L) (st : List Value) (w : za_W) : za_n 17 (25, l, st, w) = za_go 26 l (.int (0) :: st) w := (za_n.at zcc_17 dX3_hasChoice_25 rfl).trans (congrArg (fun x => za_go 26 l (.int x :: st) w) (by decide))
theorem f_17_26 (l : za_L) (st : List Value) (w : za_W) : za_n 17 (26, l, st, w) = za_x 17 (.ireturn) 26 l st w := za_n.at zcc_17 dX3_hasChoice_26 rfl
theorem f_18_0 (l : za_L) (st : List Value) (w : za_W) : za_n 18 (0, l, st, w) = za_x 18 (.iload_n 1) 0 l st w := za_n.at zcc_18 dX3_hasLength_0 rfl
theorem f_18_1 (l : za_L) (st : List Value) (w : za_W) : za_n 18 (1, l, st, w) = za_x 18 (.ifCond .lt 27) 1 l st w := za_n.at zcc_18 dX3_hasLength_1 rfl
theorem f_18_4 (l : za_L) (st : List Value) (w : za_W) : za_n 18 (4, l, st, w) = za_x 18 (.iload_n 1) 4 l st w := za_n.at zcc_18 dX3_hasLength_4 rfl
theorem f_18_5 (l : za_L) (st : List Value) (w : za_W) : za_n 18 (5, l, st, w) = za_x 18 (.aload_n 0) 5 l st w := za_n.at zcc_18 dX3_hasLength_5 rfl
theorem f_18_6 (l : za_L) (st : List Value) (w : za_W) : za_n 18 (6, l, st, w) = za_x 18 (.getfield 20) 6 l st w := za_n.at zcc_18 dX3_hasLength_6 rfl
theorem f_18_9 (l : za_L) (st : List Value) (w : za_W) : za_n 18 (9, l, st, w) = za_x 18 (.if_icmp .ge 19) 9 l st w := za_n.at zcc_18 dX3_hasLength_9 rfl
theorem f_18_12 (l : za_L) (st : List Value) (w : za_W) : za_n 18 (12, l, st, w) = za_x 18 (.iload_n 2) 12 l st w := za_n.at zcc_18 dX3_hasLength_12 rfl
theorem f_18_13 (l : za_L) (st : List Value) (w : za_W) : za_n 18 (13, l, st, w) = za_x 18 (.ifCond .lt 15) 13 l st w := za_n.at zcc_18 dX3_hasLength_13 rfl
theorem f_18_16 (l : za_L) (st : List Value) (w : za_W) : za_n 18 (16, l, st, w) = za_x 18 (.iload_n 2) 16 l st w := za_n.at zcc_18 dX3_hasLength_16 rfl
theorem f_18_17 (l : za_L) (st : List Value) (w : za_W) : za_n 18 (17, l, st, w) = za_x 18 (.aload_n 0) 17 l st w := za_n.at zcc_18 dX3_hasLength_17 rfl
theorem f_18_18 (l : za_L) (st : List Value) (w : za_W) : za_n 18 (18, l, st, w) = za_x 18 (.getfield 27) 18 l st w := za_n.at zcc_18 dX3_hasLength_18 rfl
theorem f_18_21 (l : za_L) (st : List Value) (w : za_W) : za_n 18 (21, l, st, w) = za_x 18 (.if_icmp .ge 7) 21 l st w := za_n.at zcc_18 dX3_hasLength_21 rfl
theorem f_18_24 (l : za_L) (st : List Value) (w : za_W) : za_n 18 (24, l, st, w) = za_go 25 l (.int (1) :: st) w := (za_n.at zcc_18 dX3_hasLength_24 rfl).trans (congrArg (fun x => za_go 25 l (.int x :: st) w) (by decide))
theorem f_18_25 (l : za_L) (st : List Value) (w : za_W) : za_n 18 (25, l, st, w) = za_go 29 l st w := (za_n.at zcc_18 dX3_hasLength_25 rfl).trans (za_jp.at (by decide))
theorem f_18_28 (l : za_L) (st : List Value) (w : za_W) : za_n 18 (28, l, st, w) = za_go 29 l (.int (0) :: st) w := (za_n.at zcc_18 dX3_hasLength_28 rfl).trans (congrArg (fun x => za_go 29 l (.int x :: st) w) (by decide))
theorem f_18_29 (l : za_L) (st : List Value) (w : za_W) : za_n 18 (29, l, st, w) = za_x 18 (.ireturn) 29 l st w := za_n.at zcc_18 dX3_hasLength_29 rfl
theorem f_19_0 (l : za_L) (st : List Value) (w : za_W) : za_n 19 (0, l, st, w) = za_x 19 (.aload_n 0) 0 l st w := za_n.at zcc_19 dX3_chosen_0 rfl
theorem f_19_1 (l : za_L) (st : List Value) (w : za_W) : za_n 19 (1, l, st, w) = za_x 19 (.iload_n 1) 1 l st w := za_n.at zcc_19 dX3_chosen_1 rfl
theorem f_19_2 (l : za_L) (st : List Value) (w : za_W) : za_n 19 (2, l, st, w) = za_x 19 (.invokevirtual 30) 2 l st w := za_n.at zcc_19 dX3_chosen_2 rfl
theorem f_19_5 (l : za_L) (st : List Value) (w : za_W) : za_n 19 (5, l, st, w) = za_x 19 (.ifCond .eq 12) 5 l st w := za_n.at zcc_19 dX3_chosen_5 rfl
theorem f_19_8 (l : za_L) (st : List Value) (w : za_W) : za_n 19 (8, l, st, w) = za_x 19 (.aload_n 0) 8 l st w := za_n.at zcc_19 dX3_chosen_8 rfl
theorem f_19_9 (l : za_L) (st : List Value) (w : za_W) : za_n 19 (9, l, st, w) = za_x 19 (.getfield 9) 9 l st w := za_n.at zcc_19 dX3_chosen_9 rfl
theorem f_19_12 (l : za_L) (st : List Value) (w : za_W) : za_n 19 (12, l, st, w) = za_x 19 (.iload_n 1) 12 l st w := za_n.at zcc_19 dX3_chosen_12 rfl
theorem f_19_13 (l : za_L) (st : List Value) (w : za_W) : za_n 19 (13, l, st, w) = za_x 19 (.baload) 13 l st w := za_n.at zcc_19 dX3_chosen_13 rfl
theorem f_19_14 (l : za_L) (st : List Value) (w : za_W) : za_n 19 (14, l, st, w) = za_go 18 l st w := (za_n.at zcc_19 dX3_chosen_14 rfl).trans (za_jp.at (by decide))
theorem f_19_17 (l : za_L) (st : List Value) (w : za_W) : za_n 19 (17, l, st, w) = za_go 18 l (.int (0) :: st) w := (za_n.at zcc_19 dX3_chosen_17 rfl).trans (congrArg (fun x => za_go 18 l (.int x :: st) w) (by decide))
theorem f_19_18 (l : za_L) (st : List Value) (w : za_W) : za_n 19 (18, l, st, w) = za_x 19 (.ireturn) 18 l st w := za_n.at zcc_19 dX3_chosen_18 rfl
theorem f_20_0 (l : za_L) (st : List Value) (w : za_W) : za_n 20 (0, l, st, w) = za_x 20 (.iload_n 1) 0 l st w := za_n.at zcc_20 dX3_choose_0 rfl
theorem f_20_1 (l : za_L) (st : List Value) (w : za_W) : za_n 20 (1, l, st, w) = za_x 20 (.ifCond .lt 30) 1 l st w := za_n.at zcc_20 dX3_choose_1 rfl
theorem f_20_4 (l : za_L) (st : List Value) (w : za_W) : za_n 20 (4, l, st, w) = za_x 20 (.iload_n 1) 4 l st w := za_n.at zcc_20 dX3_choose_4 rfl
theorem f_20_5 (l : za_L) (st : List Value) (w : za_W) : za_n 20 (5, l, st, w) = za_x 20 (.aload_n 0) 5 l st w := za_n.at zcc_20 dX3_choose_5 rfl
theorem f_20_6 (l : za_L) (st : List Value) (w : za_W) : za_n 20 (6, l, st, w) = za_x 20 (.getfield 9) 6 l st w := za_n.at zcc_20 dX3_choose_6 rfl
theorem f_20_9 (l : za_L) (st : List Value) (w : za_W) : za_n 20 (9, l, st, w) = za_x 20 (.arraylength) 9 l st w := za_n.at zcc_20 dX3_choose_9 rfl
theorem f_20_10 (l : za_L) (st : List Value) (w : za_W) : za_n 20 (10, l, st, w) = za_x 20 (.if_icmp .ge 21) 10 l st w := za_n.at zcc_20 dX3_choose_10 rfl
theorem f_20_13 (l : za_L) (st : List Value) (w : za_W) : za_n 20 (13, l, st, w) = za_x 20 (.iload_n 2) 13 l st w := za_n.at zcc_20 dX3_choose_13 rfl
theorem f_20_14 (l : za_L) (st : List Value) (w : za_W) : za_n 20 (14, l, st, w) = za_x 20 (.ifCond .lt 17) 14 l st w := za_n.at zcc_20 dX3_choose_14 rfl
theorem f_20_17 (l : za_L) (st : List Value) (w : za_W) : za_n 20 (17, l, st, w) = za_x 20 (.iload_n 2) 17 l st w := za_n.at zcc_20 dX3_choose_17 rfl
theorem f_20_18 (l : za_L) (st : List Value) (w : za_W) : za_n 20 (18, l, st, w) = za_go 20 l (.int (6) :: st) w := (za_n.at zcc_20 dX3_choose_18 rfl).trans (congrArg (fun x => za_go 20 l (.int x :: st) w) (by decide))
theorem f_20_20 (l : za_L) (st : List Value) (w : za_W) : za_n 20 (20, l, st, w) = za_x 20 (.if_icmp .ge 11) 20 l st w := za_n.at zcc_20 dX3_choose_20 rfl
theorem f_20_23 (l : za_L) (st : List Value) (w : za_W) : za_n 20 (23, l, st, w) = za_x 20 (.aload_n 0) 23 l st w := za_n.at zcc_20 dX3_choose_23 rfl
theorem f_20_24 (l : za_L) (st : List Value) (w : za_W) : za_n 20 (24, l, st, w) = za_x 20 (.getfield 9) 24 l st w := za_n.at zcc_20 dX3_choose_24 rfl
theorem f_20_27 (l : za_L) (st : List Value) (w : za_W) : za_n 20 (27, l, st, w) = za_x 20 (.iload_n 1) 27 l st w := za_n.at zcc_20 dX3_choose_27 rfl
theorem f_20_28 (l : za_L) (st : List Value) (w : za_W) : za_n 20 (28, l, st, w) = za_x 20 (.iload_n 2) 28 l st w := za_n.at zcc_20 dX3_choose_28 rfl
theorem f_20_29 (l : za_L) (st : List Value) (w : za_W) : za_n 20 (29, l, st, w) = za_x 20 (.i2b) 29 l st w := za_n.at zcc_20 dX3_choose_29 rfl
theorem f_20_30 (l : za_L) (st : List Value) (w : za_W) : za_n 20 (30, l, st, w) = za_x 20 (.bastore) 30 l st w := za_n.at zcc_20 dX3_choose_30 rfl
theorem f_20_31 (l : za_L) (st : List Value) (w : za_W) : za_n 20 (31, l, st, w) = za_x 20 (.return_) 31 l st w := za_n.at zcc_20 dX3_choose_31 rfl
theorem f_21_0 (l : za_L) (st : List Value) (w : za_W) : za_n 21 (0, l, st, w) = za_x 21 (.aload_n 0) 0 l st w := za_n.at zcc_21 dX4_init_0 rfl
theorem f_21_1 (l : za_L) (st : List Value) (w : za_W) : za_n 21 (1, l, st, w) = za_x 21 (.invokespecial 1) 1 l st w := za_n.at zcc_21 dX4_init_1 rfl
theorem f_21_4 (l : za_L) (st : List Value) (w : za_W) : za_n 21 (4, l, st, w) = za_x 21 (.aload_n 0) 4 l st w := za_n.at zcc_21 dX4_init_4 rfl
theorem f_21_5 (l : za_L) (st : List Value) (w : za_W) : za_n 21 (5, l, st, w) = za_go 6 l (.int (1) :: st) w := (za_n.at zcc_21 dX4_init_5 rfl).trans (congrArg (fun x => za_go 6 l (.int x :: st) w) (by decide))
theorem f_21_6 (l : za_L) (st : List Value) (w : za_W) : za_n 21 (6, l, st, w) = za_x 21 (.iload_n 1) 6 l st w := za_n.at zcc_21 dX4_init_6 rfl
theorem f_21_7 (l : za_L) (st : List Value) (w : za_W) : za_n 21 (7, l, st, w) = za_x 21 (.invokestatic 7) 7 l st w := za_n.at zcc_21 dX4_init_7 rfl
theorem f_21_10 (l : za_L) (st : List Value) (w : za_W) : za_n 21 (10, l, st, w) = za_x 21 (.newarray .int) 10 l st w := za_n.at zcc_21 dX4_init_10 rfl
theorem f_21_12 (l : za_L) (st : List Value) (w : za_W) : za_n 21 (12, l, st, w) = za_x 21 (.putfield 13) 12 l st w := za_n.at zcc_21 dX4_init_12 rfl
theorem f_21_15 (l : za_L) (st : List Value) (w : za_W) : za_n 21 (15, l, st, w) = za_x 21 (.return_) 15 l st w := za_n.at zcc_21 dX4_init_15 rfl
theorem f_22_0 (l : za_L) (st : List Value) (w : za_W) : za_n 22 (0, l, st, w) = za_x 22 (.aload_n 0) 0 l st w := za_n.at zcc_22 dX4_clear_0 rfl
theorem f_22_1 (l : za_L) (st : List Value) (w : za_W) : za_n 22 (1, l, st, w) = za_go 2 l (.int (0) :: st) w := (za_n.at zcc_22 dX4_clear_1 rfl).trans (congrArg (fun x => za_go 2 l (.int x :: st) w) (by decide))
theorem f_22_2 (l : za_L) (st : List Value) (w : za_W) : za_n 22 (2, l, st, w) = za_x 22 (.putfield 19) 2 l st w := za_n.at zcc_22 dX4_clear_2 rfl
theorem f_22_5 (l : za_L) (st : List Value) (w : za_W) : za_n 22 (5, l, st, w) = za_x 22 (.return_) 5 l st w := za_n.at zcc_22 dX4_clear_5 rfl
theorem f_23_0 (l : za_L) (st : List Value) (w : za_W) : za_n 23 (0, l, st, w) = za_x 23 (.aload_n 0) 0 l st w := za_n.at zcc_23 dX4_add_0 rfl
theorem f_23_1 (l : za_L) (st : List Value) (w : za_W) : za_n 23 (1, l, st, w) = za_x 23 (.getfield 19) 1 l st w := za_n.at zcc_23 dX4_add_1 rfl
theorem f_23_4 (l : za_L) (st : List Value) (w : za_W) : za_n 23 (4, l, st, w) = za_x 23 (.aload_n 0) 4 l st w := za_n.at zcc_23 dX4_add_4 rfl
theorem f_23_5 (l : za_L) (st : List Value) (w : za_W) : za_n 23 (5, l, st, w) = za_x 23 (.getfield 13) 5 l st w := za_n.at zcc_23 dX4_add_5 rfl
theorem f_23_8 (l : za_L) (st : List Value) (w : za_W) : za_n 23 (8, l, st, w) = za_x 23 (.arraylength) 8 l st w := za_n.at zcc_23 dX4_add_8 rfl
theorem f_23_9 (l : za_L) (st : List Value) (w : za_W) : za_n 23 (9, l, st, w) = za_x 23 (.if_icmp .ge 23) 9 l st w := za_n.at zcc_23 dX4_add_9 rfl
theorem f_23_12 (l : za_L) (st : List Value) (w : za_W) : za_n 23 (12, l, st, w) = za_x 23 (.aload_n 0) 12 l st w := za_n.at zcc_23 dX4_add_12 rfl
theorem f_23_13 (l : za_L) (st : List Value) (w : za_W) : za_n 23 (13, l, st, w) = za_x 23 (.getfield 13) 13 l st w := za_n.at zcc_23 dX4_add_13 rfl
theorem f_23_16 (l : za_L) (st : List Value) (w : za_W) : za_n 23 (16, l, st, w) = za_x 23 (.aload_n 0) 16 l st w := za_n.at zcc_23 dX4_add_16 rfl
theorem f_23_17 (l : za_L) (st : List Value) (w : za_W) : za_n 23 (17, l, st, w) = za_x 23 (.getfield 19) 17 l st w := za_n.at zcc_23 dX4_add_17 rfl
theorem f_23_20 (l : za_L) (st : List Value) (w : za_W) : za_n 23 (20, l, st, w) = za_x 23 (.iload_n 1) 20 l st w := za_n.at zcc_23 dX4_add_20 rfl
theorem f_23_21 (l : za_L) (st : List Value) (w : za_W) : za_n 23 (21, l, st, w) = za_x 23 (.iastore) 21 l st w := za_n.at zcc_23 dX4_add_21 rfl
theorem f_23_22 (l : za_L) (st : List Value) (w : za_W) : za_n 23 (22, l, st, w) = za_x 23 (.aload_n 0) 22 l st w := za_n.at zcc_23 dX4_add_22 rfl
theorem f_23_23 (l : za_L) (st : List Value) (w : za_W) : za_n 23 (23, l, st, w) = za_x 23 (.dup) 23 l st w := za_n.at zcc_23 dX4_add_23 rfl
theorem f_23_24 (l : za_L) (st : List Value) (w : za_W) : za_n 23 (24, l, st, w) = za_x 23 (.getfield 19) 24 l st w := za_n.at zcc_23 dX4_add_24 rfl
theorem f_23_27 (l : za_L) (st : List Value) (w : za_W) : za_n 23 (27, l, st, w) = za_go 28 l (.int (1) :: st) w := (za_n.at zcc_23 dX4_add_27 rfl).trans (congrArg (fun x => za_go 28 l (.int x :: st) w) (by decide))
theorem f_23_28 (l : za_L) (st : List Value) (w : za_W) : za_n 23 (28, l, st, w) = za_x 23 (.iadd) 28 l st w := za_n.at zcc_23 dX4_add_28 rfl
theorem f_23_29 (l : za_L) (st : List Value) (w : za_W) : za_n 23 (29, l, st, w) = za_x 23 (.putfield 19) 29 l st w := za_n.at zcc_23 dX4_add_29 rfl
theorem f_23_32 (l : za_L) (st : List Value) (w : za_W) : za_n 23 (32, l, st, w) = za_x 23 (.return_) 32 l st w := za_n.at zcc_23 dX4_add_32 rfl
theorem f_24_0 (l : za_L) (st : List Value) (w : za_W) : za_n 24 (0, l, st, w) = za_x 24 (.aload_n 0) 0 l st w := za_n.at zcc_24 dX4_restart_0 rfl
theorem f_24_1 (l : za_L) (st : List Value) (w : za_W) : za_n 24 (1, l, st, w) = za_x 24 (.invokevirtual 23) 1 l st w := za_n.at zcc_24 dX4_restart_1 rfl
theorem f_24_4 (l : za_L) (st : List Value) (w : za_W) : za_n 24 (4, l, st, w) = za_go 5 l (.int (0) :: st) w := (za_n.at zcc_24 dX4_restart_4 rfl).trans (congrArg (fun x => za_go 5 l (.int x :: st) w) (by decide))
theorem f_24_5 (l : za_L) (st : List Value) (w : za_W) : za_n 24 (5, l, st, w) = za_x 24 (.istore_n 2) 5 l st w := za_n.at zcc_24 dX4_restart_5 rfl
theorem f_24_6 (l : za_L) (st : List Value) (w : za_W) : za_n 24 (6, l, st, w) = za_x 24 (.iload_n 2) 6 l st w := za_n.at zcc_24 dX4_restart_6 rfl
theorem f_24_7 (l : za_L) (st : List Value) (w : za_W) : za_n 24 (7, l, st, w) = za_x 24 (.iload_n 1) 7 l st w := za_n.at zcc_24 dX4_restart_7 rfl
theorem f_24_8 (l : za_L) (st : List Value) (w : za_W) : za_n 24 (8, l, st, w) = za_x 24 (.if_icmp .ge 14) 8 l st w := za_n.at zcc_24 dX4_restart_8 rfl
theorem f_24_11 (l : za_L) (st : List Value) (w : za_W) : za_n 24 (11, l, st, w) = za_x 24 (.aload_n 0) 11 l st w := za_n.at zcc_24 dX4_restart_11 rfl
theorem f_24_12 (l : za_L) (st : List Value) (w : za_W) : za_n 24 (12, l, st, w) = za_x 24 (.iload_n 2) 12 l st w := za_n.at zcc_24 dX4_restart_12 rfl
theorem f_24_13 (l : za_L) (st : List Value) (w : za_W) : za_n 24 (13, l, st, w) = za_x 24 (.invokevirtual 26) 13 l st w := za_n.at zcc_24 dX4_restart_13 rfl
theorem f_24_16 (l : za_L) (st : List Value) (w : za_W) : za_n 24 (16, l, st, w) = za_x 24 (.iinc 2 1) 16 l st w := za_n.at zcc_24 dX4_restart_16 rfl
theorem f_24_19 (l : za_L) (st : List Value) (w : za_W) : za_n 24 (19, l, st, w) = za_go 6 l st w := (za_n.at zcc_24 dX4_restart_19 rfl).trans (za_jp.at (by decide))
theorem f_24_22 (l : za_L) (st : List Value) (w : za_W) : za_n 24 (22, l, st, w) = za_x 24 (.return_) 22 l st w := za_n.at zcc_24 dX4_restart_22 rfl
theorem f_25_0 (l : za_L) (st : List Value) (w : za_W) : za_n 25 (0, l, st, w) = za_x 25 (.aload_n 0) 0 l st w := za_n.at zcc_25 dX4_first_0 rfl
theorem f_25_1 (l : za_L) (st : List Value) (w : za_W) : za_n 25 (1, l, st, w) = za_x 25 (.getfield 13) 1 l st w := za_n.at zcc_25 dX4_first_1 rfl
theorem f_25_4 (l : za_L) (st : List Value) (w : za_W) : za_n 25 (4, l, st, w) = za_go 5 l (.int (0) :: st) w := (za_n.at zcc_25 dX4_first_4 rfl).trans (congrArg (fun x => za_go 5 l (.int x :: st) w) (by decide))
theorem f_25_5 (l : za_L) (st : List Value) (w : za_W) : za_n 25 (5, l, st, w) = za_x 25 (.iaload) 5 l st w := za_n.at zcc_25 dX4_first_5 rfl
theorem f_25_6 (l : za_L) (st : List Value) (w : za_W) : za_n 25 (6, l, st, w) = za_x 25 (.ireturn) 6 l st w := za_n.at zcc_25 dX4_first_6 rfl
theorem f_26_0 (l : za_L) (st : List Value) (w : za_W) : za_n 26 (0, l, st, w) = za_x 26 (.iload_n 1) 0 l st w := za_n.at zcc_26 dX4_takeAt_0 rfl
theorem f_26_1 (l : za_L) (st : List Value) (w : za_W) : za_n 26 (1, l, st, w) = za_x 26 (.ifCond .lt 11) 1 l st w := za_n.at zcc_26 dX4_takeAt_1 rfl
theorem f_26_4 (l : za_L) (st : List Value) (w : za_W) : za_n 26 (4, l, st, w) = za_x 26 (.iload_n 1) 4 l st w := za_n.at zcc_26 dX4_takeAt_4 rfl
theorem f_26_5 (l : za_L) (st : List Value) (w : za_W) : za_n 26 (5, l, st, w) = za_x 26 (.aload_n 0) 5 l st w := za_n.at zcc_26 dX4_takeAt_5 rfl
theorem f_26_6 (l : za_L) (st : List Value) (w : za_W) : za_n 26 (6, l, st, w) = za_x 26 (.getfield 19) 6 l st w := za_n.at zcc_26 dX4_takeAt_6 rfl
theorem f_26_9 (l : za_L) (st : List Value) (w : za_W) : za_n 26 (9, l, st, w) = za_x 26 (.if_icmp .lt 5) 9 l st w := za_n.at zcc_26 dX4_takeAt_9 rfl
theorem f_26_12 (l : za_L) (st : List Value) (w : za_W) : za_n 26 (12, l, st, w) = za_go 13 l (.int (0) :: st) w := (za_n.at zcc_26 dX4_takeAt_12 rfl).trans (congrArg (fun x => za_go 13 l (.int x :: st) w) (by decide))
theorem f_26_13 (l : za_L) (st : List Value) (w : za_W) : za_n 26 (13, l, st, w) = za_x 26 (.ireturn) 13 l st w := za_n.at zcc_26 dX4_takeAt_13 rfl
theorem f_26_14 (l : za_L) (st : List Value) (w : za_W) : za_n 26 (14, l, st, w) = za_x 26 (.aload_n 0) 14 l st w := za_n.at zcc_26 dX4_takeAt_14 rfl
theorem f_26_15 (l : za_L) (st : List Value) (w : za_W) : za_n 26 (15, l, st, w) = za_x 26 (.getfield 13) 15 l st w := za_n.at zcc_26 dX4_takeAt_15 rfl
theorem f_26_18 (l : za_L) (st : List Value) (w : za_W) : za_n 26 (18, l, st, w) = za_x 26 (.iload_n 1) 18 l st w := za_n.at zcc_26 dX4_takeAt_18 rfl
theorem f_26_19 (l : za_L) (st : List Value) (w : za_W) : za_n 26 (19, l, st, w) = za_x 26 (.iaload) 19 l st w := za_n.at zcc_26 dX4_takeAt_19 rfl
theorem f_26_20 (l : za_L) (st : List Value) (w : za_W) : za_n 26 (20, l, st, w) = za_x 26 (.istore_n 2) 20 l st w := za_n.at zcc_26 dX4_takeAt_20 rfl
theorem f_26_21 (l : za_L) (st : List Value) (w : za_W) : za_n 26 (21, l, st, w) = za_x 26 (.aload_n 0) 21 l st w := za_n.at zcc_26 dX4_takeAt_21 rfl
theorem f_26_22 (l : za_L) (st : List Value) (w : za_W) : za_n 26 (22, l, st, w) = za_x 26 (.getfield 13) 22 l st w := za_n.at zcc_26 dX4_takeAt_22 rfl
theorem f_26_25 (l : za_L) (st : List Value) (w : za_W) : za_n 26 (25, l, st, w) = za_go 26 l (.int (0) :: st) w := (za_n.at zcc_26 dX4_takeAt_25 rfl).trans (congrArg (fun x => za_go 26 l (.int x :: st) w) (by decide))
theorem f_26_26 (l : za_L) (st : List Value) (w : za_W) : za_n 26 (26, l, st, w) = za_x 26 (.aload_n 0) 26 l st w := za_n.at zcc_26 dX4_takeAt_26 rfl
theorem f_26_27 (l : za_L) (st : List Value) (w : za_W) : za_n 26 (27, l, st, w) = za_x 26 (.getfield 13) 27 l st w := za_n.at zcc_26 dX4_takeAt_27 rfl
theorem f_26_30 (l : za_L) (st : List Value) (w : za_W) : za_n 26 (30, l, st, w) = za_go 31 l (.int (1) :: st) w := (za_n.at zcc_26 dX4_takeAt_30 rfl).trans (congrArg (fun x => za_go 31 l (.int x :: st) w) (by decide))
theorem f_26_31 (l : za_L) (st : List Value) (w : za_W) : za_n 26 (31, l, st, w) = za_x 26 (.iload_n 1) 31 l st w := za_n.at zcc_26 dX4_takeAt_31 rfl
theorem f_26_32 (l : za_L) (st : List Value) (w : za_W) : za_n 26 (32, l, st, w) = za_x 26 (.invokestatic 30) 32 l st w := za_n.at zcc_26 dX4_takeAt_32 rfl
theorem f_26_35 (l : za_L) (st : List Value) (w : za_W) : za_n 26 (35, l, st, w) = za_x 26 (.aload_n 0) 35 l st w := za_n.at zcc_26 dX4_takeAt_35 rfl
theorem f_26_36 (l : za_L) (st : List Value) (w : za_W) : za_n 26 (36, l, st, w) = za_x 26 (.getfield 13) 36 l st w := za_n.at zcc_26 dX4_takeAt_36 rfl
theorem f_26_39 (l : za_L) (st : List Value) (w : za_W) : za_n 26 (39, l, st, w) = za_go 40 l (.int (0) :: st) w := (za_n.at zcc_26 dX4_takeAt_39 rfl).trans (congrArg (fun x => za_go 40 l (.int x :: st) w) (by decide))
theorem f_26_40 (l : za_L) (st : List Value) (w : za_W) : za_n 26 (40, l, st, w) = za_x 26 (.iload_n 2) 40 l st w := za_n.at zcc_26 dX4_takeAt_40 rfl
theorem f_26_41 (l : za_L) (st : List Value) (w : za_W) : za_n 26 (41, l, st, w) = za_x 26 (.iastore) 41 l st w := za_n.at zcc_26 dX4_takeAt_41 rfl
theorem f_26_42 (l : za_L) (st : List Value) (w : za_W) : za_n 26 (42, l, st, w) = za_x 26 (.iload_n 2) 42 l st w := za_n.at zcc_26 dX4_takeAt_42 rfl
theorem f_26_43 (l : za_L) (st : List Value) (w : za_W) : za_n 26 (43, l, st, w) = za_x 26 (.ireturn) 43 l st w := za_n.at zcc_26 dX4_takeAt_43 rfl
theorem f_27_0 (l : za_L) (st : List Value) (w : za_W) : za_n 27 (0, l, st, w) = za_go 1 l (.int (0) :: st) w := (za_n.at zcc_27 dX4_placeOf_0 rfl).trans (congrArg (fun x => za_go 1 l (.int x :: st) w) (by decide))
theorem f_27_1 (l : za_L) (st : List Value) (w : za_W) : za_n 27 (1, l, st, w) = za_x 27 (.istore_n 2) 1 l st w := za_n.at zcc_27 dX4_placeOf_1 rfl
theorem f_27_2 (l : za_L) (st : List Value) (w : za_W) : za_n 27 (2, l, st, w) = za_x 27 (.iload_n 2) 2 l st w := za_n.at zcc_27 dX4_placeOf_2 rfl
theorem f_27_3 (l : za_L) (st : List Value) (w : za_W) : za_n 27 (3, l, st, w) = za_x 27 (.aload_n 0) 3 l st w := za_n.at zcc_27 dX4_placeOf_3 rfl
theorem f_27_4 (l : za_L) (st : List Value) (w : za_W) : za_n 27 (4, l, st, w) = za_x 27 (.getfield 19) 4 l st w := za_n.at zcc_27 dX4_placeOf_4 rfl
theorem f_27_7 (l : za_L) (st : List Value) (w : za_W) : za_n 27 (7, l, st, w) = za_x 27 (.if_icmp .ge 27) 7 l st w := za_n.at zcc_27 dX4_placeOf_7 rfl
theorem f_27_10 (l : za_L) (st : List Value) (w : za_W) : za_n 27 (10, l, st, w) = za_x 27 (.aload_n 0) 10 l st w := za_n.at zcc_27 dX4_placeOf_10 rfl
theorem f_27_11 (l : za_L) (st : List Value) (w : za_W) : za_n 27 (11, l, st, w) = za_x 27 (.getfield 13) 11 l st w := za_n.at zcc_27 dX4_placeOf_11 rfl
theorem f_27_14 (l : za_L) (st : List Value) (w : za_W) : za_n 27 (14, l, st, w) = za_x 27 (.iload_n 2) 14 l st w := za_n.at zcc_27 dX4_placeOf_14 rfl
theorem f_27_15 (l : za_L) (st : List Value) (w : za_W) : za_n 27 (15, l, st, w) = za_x 27 (.iaload) 15 l st w := za_n.at zcc_27 dX4_placeOf_15 rfl
theorem f_27_16 (l : za_L) (st : List Value) (w : za_W) : za_n 27 (16, l, st, w) = za_x 27 (.iload_n 1) 16 l st w := za_n.at zcc_27 dX4_placeOf_16 rfl
theorem f_27_17 (l : za_L) (st : List Value) (w : za_W) : za_n 27 (17, l, st, w) = za_x 27 (.if_icmp .ne 11) 17 l st w := za_n.at zcc_27 dX4_placeOf_17 rfl
theorem f_27_20 (l : za_L) (st : List Value) (w : za_W) : za_n 27 (20, l, st, w) = za_x 27 (.aload_n 0) 20 l st w := za_n.at zcc_27 dX4_placeOf_20 rfl
theorem f_27_21 (l : za_L) (st : List Value) (w : za_W) : za_n 27 (21, l, st, w) = za_x 27 (.iload_n 2) 21 l st w := za_n.at zcc_27 dX4_placeOf_21 rfl
theorem f_27_22 (l : za_L) (st : List Value) (w : za_W) : za_n 27 (22, l, st, w) = za_x 27 (.invokevirtual 36) 22 l st w := za_n.at zcc_27 dX4_placeOf_22 rfl
theorem f_27_25 (l : za_L) (st : List Value) (w : za_W) : za_n 27 (25, l, st, w) = za_x 27 (.pop) 25 l st w := za_n.at zcc_27 dX4_placeOf_25 rfl
theorem f_27_26 (l : za_L) (st : List Value) (w : za_W) : za_n 27 (26, l, st, w) = za_x 27 (.iload_n 2) 26 l st w := za_n.at zcc_27 dX4_placeOf_26 rfl
theorem f_27_27 (l : za_L) (st : List Value) (w : za_W) : za_n 27 (27, l, st, w) = za_x 27 (.ireturn) 27 l st w := za_n.at zcc_27 dX4_placeOf_27 rfl
theorem f_27_28 (l : za_L) (st : List Value) (w : za_W) : za_n 27 (28, l, st, w) = za_x 27 (.iinc 2 1) 28 l st w := za_n.at zcc_27 dX4_placeOf_28 rfl
theorem f_27_31 (l : za_L) (st : List Value) (w : za_W) : za_n 27 (31, l, st, w) = za_go 2 l st w := (za_n.at zcc_27 dX4_placeOf_31 rfl).trans (za_jp.at (by decide))
theorem f_27_34 (l : za_L) (st : List Value) (w : za_W) : za_n 27 (34, l, st, w) = za_go 35 l (.int (0) :: st) w := (za_n.at zcc_27 dX4_placeOf_34 rfl).trans (congrArg (fun x => za_go 35 l (.int x :: st) w) (by decide))
theorem f_27_35 (l : za_L) (st : List Value) (w : za_W) : za_n 27 (35, l, st, w) = za_x 27 (.ireturn) 35 l st w := za_n.at zcc_27 dX4_placeOf_35 rfl
theorem f_28_0 (l : za_L) (st : List Value) (w : za_W) : za_n 28 (0, l, st, w) = za_x 28 (.aload_n 0) 0 l st w := za_n.at zcc_28 dX5_init_0 rfl
theorem f_28_1 (l : za_L) (st : List Value) (w : za_W) : za_n 28 (1, l, st, w) = za_x 28 (.invokespecial 3) 1 l st w := za_n.at zcc_28 dX5_init_1 rfl
theorem f_28_4 (l : za_L) (st : List Value) (w : za_W) : za_n 28 (4, l, st, w) = za_x 28 (.aload_n 0) 4 l st w := za_n.at zcc_28 dX5_init_4 rfl
theorem f_28_5 (l : za_L) (st : List Value) (w : za_W) : za_n 28 (5, l, st, w) = za_x 28 (.new 9) 5 l st w := za_n.at zcc_28 dX5_init_5 rfl
theorem f_28_8 (l : za_L) (st : List Value) (w : za_W) : za_n 28 (8, l, st, w) = za_x 28 (.dup) 8 l st w := za_n.at zcc_28 dX5_init_8 rfl
theorem f_28_9 (l : za_L) (st : List Value) (w : za_W) : za_n 28 (9, l, st, w) = za_go 12 l (.int (256) :: st) w := (za_n.at zcc_28 dX5_init_9 rfl).trans (congrArg (fun x => za_go 12 l (.int x :: st) w) (by decide))
theorem f_28_12 (l : za_L) (st : List Value) (w : za_W) : za_n 28 (12, l, st, w) = za_x 28 (.invokespecial 11) 12 l st w := za_n.at zcc_28 dX5_init_12 rfl
theorem f_28_15 (l : za_L) (st : List Value) (w : za_W) : za_n 28 (15, l, st, w) = za_x 28 (.putfield 14) 15 l st w := za_n.at zcc_28 dX5_init_15 rfl
theorem f_28_18 (l : za_L) (st : List Value) (w : za_W) : za_n 28 (18, l, st, w) = za_x 28 (.aload_n 0) 18 l st w := za_n.at zcc_28 dX5_init_18 rfl
theorem f_28_19 (l : za_L) (st : List Value) (w : za_W) : za_n 28 (19, l, st, w) = za_x 28 (.new 9) 19 l st w := za_n.at zcc_28 dX5_init_19 rfl
theorem f_28_22 (l : za_L) (st : List Value) (w : za_W) : za_n 28 (22, l, st, w) = za_x 28 (.dup) 22 l st w := za_n.at zcc_28 dX5_init_22 rfl
theorem f_28_23 (l : za_L) (st : List Value) (w : za_W) : za_n 28 (23, l, st, w) = za_go 25 l (.int (6) :: st) w := (za_n.at zcc_28 dX5_init_23 rfl).trans (congrArg (fun x => za_go 25 l (.int x :: st) w) (by decide))
theorem f_28_25 (l : za_L) (st : List Value) (w : za_W) : za_n 28 (25, l, st, w) = za_x 28 (.invokespecial 11) 25 l st w := za_n.at zcc_28 dX5_init_25 rfl
theorem f_28_28 (l : za_L) (st : List Value) (w : za_W) : za_n 28 (28, l, st, w) = za_x 28 (.putfield 20) 28 l st w := za_n.at zcc_28 dX5_init_28 rfl
theorem f_28_31 (l : za_L) (st : List Value) (w : za_W) : za_n 28 (31, l, st, w) = za_x 28 (.aload_n 0) 31 l st w := za_n.at zcc_28 dX5_init_31 rfl
theorem f_28_32 (l : za_L) (st : List Value) (w : za_W) : za_n 28 (32, l, st, w) = za_go 34 l (.int (6) :: st) w := (za_n.at zcc_28 dX5_init_32 rfl).trans (congrArg (fun x => za_go 34 l (.int x :: st) w) (by decide))
theorem f_28_34 (l : za_L) (st : List Value) (w : za_W) : za_n 28 (34, l, st, w) = za_x 28 (.anewarray 23) 34 l st w := za_n.at zcc_28 dX5_init_34 rfl
theorem f_28_37 (l : za_L) (st : List Value) (w : za_W) : za_n 28 (37, l, st, w) = za_x 28 (.putfield 25) 37 l st w := za_n.at zcc_28 dX5_init_37 rfl
theorem f_28_40 (l : za_L) (st : List Value) (w : za_W) : za_n 28 (40, l, st, w) = za_x 28 (.aload_n 0) 40 l st w := za_n.at zcc_28 dX5_init_40 rfl
theorem f_28_41 (l : za_L) (st : List Value) (w : za_W) : za_n 28 (41, l, st, w) = za_go 44 l (.int (1800) :: st) w := (za_n.at zcc_28 dX5_init_41 rfl).trans (congrArg (fun x => za_go 44 l (.int x :: st) w) (by decide))
theorem f_28_44 (l : za_L) (st : List Value) (w : za_W) : za_n 28 (44, l, st, w) = za_x 28 (.newarray .byte) 44 l st w := za_n.at zcc_28 dX5_init_44 rfl
theorem f_28_46 (l : za_L) (st : List Value) (w : za_W) : za_n 28 (46, l, st, w) = za_x 28 (.putfield 29) 46 l st w := za_n.at zcc_28 dX5_init_46 rfl
theorem f_28_49 (l : za_L) (st : List Value) (w : za_W) : za_n 28 (49, l, st, w) = za_x 28 (.aload_n 0) 49 l st w := za_n.at zcc_28 dX5_init_49 rfl
theorem f_28_50 (l : za_L) (st : List Value) (w : za_W) : za_n 28 (50, l, st, w) = za_go 53 l (.int (1800) :: st) w := (za_n.at zcc_28 dX5_init_50 rfl).trans (congrArg (fun x => za_go 53 l (.int x :: st) w) (by decide))
theorem f_28_53 (l : za_L) (st : List Value) (w : za_W) : za_n 28 (53, l, st, w) = za_x 28 (.newarray .byte) 53 l st w := za_n.at zcc_28 dX5_init_53 rfl
theorem f_28_55 (l : za_L) (st : List Value) (w : za_W) : za_n 28 (55, l, st, w) = za_x 28 (.putfield 33) 55 l st w := za_n.at zcc_28 dX5_init_55 rfl
theorem f_28_58 (l : za_L) (st : List Value) (w : za_W) : za_n 28 (58, l, st, w) = za_x 28 (.aload_n 0) 58 l st w := za_n.at zcc_28 dX5_init_58 rfl
theorem f_28_59 (l : za_L) (st : List Value) (w : za_W) : za_n 28 (59, l, st, w) = za_x 28 (.aload_n 2) 59 l st w := za_n.at zcc_28 dX5_init_59 rfl
theorem f_28_60 (l : za_L) (st : List Value) (w : za_W) : za_n 28 (60, l, st, w) = za_x 28 (.putfield 36) 60 l st w := za_n.at zcc_28 dX5_init_60 rfl
theorem f_28_63 (l : za_L) (st : List Value) (w : za_W) : za_n 28 (63, l, st, w) = za_x 28 (.aload_n 0) 63 l st w := za_n.at zcc_28 dX5_init_63 rfl
theorem f_28_64 (l : za_L) (st : List Value) (w : za_W) : za_n 28 (64, l, st, w) = za_x 28 (.aload_n 3) 64 l st w := za_n.at zcc_28 dX5_init_64 rfl
theorem f_28_65 (l : za_L) (st : List Value) (w : za_W) : za_n 28 (65, l, st, w) = za_x 28 (.putfield 40) 65 l st w := za_n.at zcc_28 dX5_init_65 rfl
theorem f_28_68 (l : za_L) (st : List Value) (w : za_W) : za_n 28 (68, l, st, w) = za_x 28 (.aload_n 0) 68 l st w := za_n.at zcc_28 dX5_init_68 rfl
theorem f_28_69 (l : za_L) (st : List Value) (w : za_W) : za_n 28 (69, l, st, w) = za_x 28 (.aload 4) 69 l st w := za_n.at zcc_28 dX5_init_69 rfl
theorem f_28_71 (l : za_L) (st : List Value) (w : za_W) : za_n 28 (71, l, st, w) = za_x 28 (.putfield 44) 71 l st w := za_n.at zcc_28 dX5_init_71 rfl
theorem f_28_74 (l : za_L) (st : List Value) (w : za_W) : za_n 28 (74, l, st, w) = za_x 28 (.aload_n 0) 74 l st w := za_n.at zcc_28 dX5_init_74 rfl
theorem f_28_75 (l : za_L) (st : List Value) (w : za_W) : za_n 28 (75, l, st, w) = za_x 28 (.new 48) 75 l st w := za_n.at zcc_28 dX5_init_75 rfl
theorem f_28_78 (l : za_L) (st : List Value) (w : za_W) : za_n 28 (78, l, st, w) = za_x 28 (.dup) 78 l st w := za_n.at zcc_28 dX5_init_78 rfl
theorem f_28_79 (l : za_L) (st : List Value) (w : za_W) : za_n 28 (79, l, st, w) = za_x 28 (.aload_n 1) 79 l st w := za_n.at zcc_28 dX5_init_79 rfl
theorem f_28_80 (l : za_L) (st : List Value) (w : za_W) : za_n 28 (80, l, st, w) = za_x 28 (.invokespecial 50) 80 l st w := za_n.at zcc_28 dX5_init_80 rfl
theorem f_28_83 (l : za_L) (st : List Value) (w : za_W) : za_n 28 (83, l, st, w) = za_x 28 (.putfield 53) 83 l st w := za_n.at zcc_28 dX5_init_83 rfl
theorem f_28_86 (l : za_L) (st : List Value) (w : za_W) : za_n 28 (86, l, st, w) = za_go 87 l (.int (0) :: st) w := (za_n.at zcc_28 dX5_init_86 rfl).trans (congrArg (fun x => za_go 87 l (.int x :: st) w) (by decide))
theorem f_28_87 (l : za_L) (st : List Value) (w : za_W) : za_n 28 (87, l, st, w) = za_x 28 (.istore 5) 87 l st w := za_n.at zcc_28 dX5_init_87 rfl
theorem f_28_89 (l : za_L) (st : List Value) (w : za_W) : za_n 28 (89, l, st, w) = za_x 28 (.iload 5) 89 l st w := za_n.at zcc_28 dX5_init_89 rfl
theorem f_28_91 (l : za_L) (st : List Value) (w : za_W) : za_n 28 (91, l, st, w) = za_go 93 l (.int (6) :: st) w := (za_n.at zcc_28 dX5_init_91 rfl).trans (congrArg (fun x => za_go 93 l (.int x :: st) w) (by decide))
theorem f_28_93 (l : za_L) (st : List Value) (w : za_W) : za_n 28 (93, l, st, w) = za_x 28 (.if_icmp .ge 23) 93 l st w := za_n.at zcc_28 dX5_init_93 rfl
theorem f_28_96 (l : za_L) (st : List Value) (w : za_W) : za_n 28 (96, l, st, w) = za_x 28 (.aload_n 0) 96 l st w := za_n.at zcc_28 dX5_init_96 rfl
theorem f_28_97 (l : za_L) (st : List Value) (w : za_W) : za_n 28 (97, l, st, w) = za_x 28 (.getfield 25) 97 l st w := za_n.at zcc_28 dX5_init_97 rfl
theorem f_28_100 (l : za_L) (st : List Value) (w : za_W) : za_n 28 (100, l, st, w) = za_x 28 (.iload 5) 100 l st w := za_n.at zcc_28 dX5_init_100 rfl
theorem f_28_102 (l : za_L) (st : List Value) (w : za_W) : za_n 28 (102, l, st, w) = za_x 28 (.new 23) 102 l st w := za_n.at zcc_28 dX5_init_102 rfl
theorem f_28_105 (l : za_L) (st : List Value) (w : za_W) : za_n 28 (105, l, st, w) = za_x 28 (.dup) 105 l st w := za_n.at zcc_28 dX5_init_105 rfl
theorem f_28_106 (l : za_L) (st : List Value) (w : za_W) : za_n 28 (106, l, st, w) = za_x 28 (.invokespecial 57) 106 l st w := za_n.at zcc_28 dX5_init_106 rfl
theorem f_28_109 (l : za_L) (st : List Value) (w : za_W) : za_n 28 (109, l, st, w) = za_x 28 (.aastore) 109 l st w := za_n.at zcc_28 dX5_init_109 rfl
theorem f_28_110 (l : za_L) (st : List Value) (w : za_W) : za_n 28 (110, l, st, w) = za_x 28 (.iinc 5 1) 110 l st w := za_n.at zcc_28 dX5_init_110 rfl
theorem f_28_113 (l : za_L) (st : List Value) (w : za_W) : za_n 28 (113, l, st, w) = za_go 89 l st w := (za_n.at zcc_28 dX5_init_113 rfl).trans (za_jp.at (by decide))
theorem f_28_116 (l : za_L) (st : List Value) (w : za_W) : za_n 28 (116, l, st, w) = za_x 28 (.return_) 116 l st w := za_n.at zcc_28 dX5_init_116 rfl
theorem f_29_0 (l : za_L) (st : List Value) (w : za_W) : za_n 29 (0, l, st, w) = za_go 2 l (.int (-10) :: st) w := (za_n.at zcc_29 dX5_brokenAnswer_0 rfl).trans (congrArg (fun x => za_go 2 l (.int x :: st) w) (by decide))
theorem f_29_2 (l : za_L) (st : List Value) (w : za_W) : za_n 29 (2, l, st, w) = za_x 29 (.aload_n 0) 2 l st w := za_n.at zcc_29 dX5_brokenAnswer_2 rfl
theorem f_29_3 (l : za_L) (st : List Value) (w : za_W) : za_n 29 (3, l, st, w) = za_x 29 (.getfield 53) 3 l st w := za_n.at zcc_29 dX5_brokenAnswer_3 rfl
theorem f_29_6 (l : za_L) (st : List Value) (w : za_W) : za_n 29 (6, l, st, w) = za_x 29 (.invokevirtual 58) 6 l st w := za_n.at zcc_29 dX5_brokenAnswer_6 rfl
theorem f_29_9 (l : za_L) (st : List Value) (w : za_W) : za_n 29 (9, l, st, w) = za_x 29 (.isub) 9 l st w := za_n.at zcc_29 dX5_brokenAnswer_9 rfl
theorem f_29_10 (l : za_L) (st : List Value) (w : za_W) : za_n 29 (10, l, st, w) = za_x 29 (.ireturn) 10 l st w := za_n.at zcc_29 dX5_brokenAnswer_10 rfl
theorem f_30_0 (l : za_L) (st : List Value) (w : za_W) : za_n 30 (0, l, st, w) = za_x 30 (.aload_n 0) 0 l st w := za_n.at zcc_30 dX5_openRows_0 rfl
theorem f_30_1 (l : za_L) (st : List Value) (w : za_W) : za_n 30 (1, l, st, w) = za_go 2 l (.int (0) :: st) w := (za_n.at zcc_30 dX5_openRows_1 rfl).trans (congrArg (fun x => za_go 2 l (.int x :: st) w) (by decide))
theorem f_30_2 (l : za_L) (st : List Value) (w : za_W) : za_n 30 (2, l, st, w) = za_x 30 (.invokevirtual 62) 2 l st w := za_n.at zcc_30 dX5_openRows_2 rfl
theorem f_30_5 (l : za_L) (st : List Value) (w : za_W) : za_n 30 (5, l, st, w) = za_x 30 (.aload_n 0) 5 l st w := za_n.at zcc_30 dX5_openRows_5 rfl
theorem f_30_6 (l : za_L) (st : List Value) (w : za_W) : za_n 30 (6, l, st, w) = za_x 30 (.getfield 40) 6 l st w := za_n.at zcc_30 dX5_openRows_6 rfl
theorem f_30_9 (l : za_L) (st : List Value) (w : za_W) : za_n 30 (9, l, st, w) = za_x 30 (.invokevirtual 65) 9 l st w := za_n.at zcc_30 dX5_openRows_9 rfl
theorem f_30_12 (l : za_L) (st : List Value) (w : za_W) : za_n 30 (12, l, st, w) = za_go 13 l (.int (0) :: st) w := (za_n.at zcc_30 dX5_openRows_12 rfl).trans (congrArg (fun x => za_go 13 l (.int x :: st) w) (by decide))
theorem f_30_13 (l : za_L) (st : List Value) (w : za_W) : za_n 30 (13, l, st, w) = za_x 30 (.istore_n 1) 13 l st w := za_n.at zcc_30 dX5_openRows_13 rfl
theorem f_30_14 (l : za_L) (st : List Value) (w : za_W) : za_n 30 (14, l, st, w) = za_x 30 (.iload_n 1) 14 l st w := za_n.at zcc_30 dX5_openRows_14 rfl
theorem f_30_15 (l : za_L) (st : List Value) (w : za_W) : za_n 30 (15, l, st, w) = za_go 18 l (.int (1500) :: st) w := (za_n.at zcc_30 dX5_openRows_15 rfl).trans (congrArg (fun x => za_go 18 l (.int x :: st) w) (by decide))
theorem f_30_18 (l : za_L) (st : List Value) (w : za_W) : za_n 30 (18, l, st, w) = za_x 30 (.if_icmp .gt 31) 18 l st w := za_n.at zcc_30 dX5_openRows_18 rfl
theorem f_30_21 (l : za_L) (st : List Value) (w : za_W) : za_n 30 (21, l, st, w) = za_x 30 (.aload_n 0) 21 l st w := za_n.at zcc_30 dX5_openRows_21 rfl
theorem f_30_22 (l : za_L) (st : List Value) (w : za_W) : za_n 30 (22, l, st, w) = za_x 30 (.iload_n 1) 22 l st w := za_n.at zcc_30 dX5_openRows_22 rfl
theorem f_30_23 (l : za_L) (st : List Value) (w : za_W) : za_n 30 (23, l, st, w) = za_x 30 (.invokevirtual 70) 23 l st w := za_n.at zcc_30 dX5_openRows_23 rfl
theorem f_30_26 (l : za_L) (st : List Value) (w : za_W) : za_n 30 (26, l, st, w) = za_x 30 (.ifCond .ne 5) 26 l st w := za_n.at zcc_30 dX5_openRows_26 rfl
theorem f_30_29 (l : za_L) (st : List Value) (w : za_W) : za_n 30 (29, l, st, w) = za_go 30 l (.int (0) :: st) w := (za_n.at zcc_30 dX5_openRows_29 rfl).trans (congrArg (fun x => za_go 30 l (.int x :: st) w) (by decide))
theorem f_30_30 (l : za_L) (st : List Value) (w : za_W) : za_n 30 (30, l, st, w) = za_x 30 (.ireturn) 30 l st w := za_n.at zcc_30 dX5_openRows_30 rfl
theorem f_30_31 (l : za_L) (st : List Value) (w : za_W) : za_n 30 (31, l, st, w) = za_x 30 (.aload_n 0) 31 l st w := za_n.at zcc_30 dX5_openRows_31 rfl
theorem f_30_32 (l : za_L) (st : List Value) (w : za_W) : za_n 30 (32, l, st, w) = za_x 30 (.getfield 53) 32 l st w := za_n.at zcc_30 dX5_openRows_32 rfl
theorem f_30_35 (l : za_L) (st : List Value) (w : za_W) : za_n 30 (35, l, st, w) = za_x 30 (.invokevirtual 74) 35 l st w := za_n.at zcc_30 dX5_openRows_35 rfl
theorem f_30_38 (l : za_L) (st : List Value) (w : za_W) : za_n 30 (38, l, st, w) = za_x 30 (.ifCond .eq 5) 38 l st w := za_n.at zcc_30 dX5_openRows_38 rfl
theorem f_30_41 (l : za_L) (st : List Value) (w : za_W) : za_n 30 (41, l, st, w) = za_go 42 l (.int (1) :: st) w := (za_n.at zcc_30 dX5_openRows_41 rfl).trans (congrArg (fun x => za_go 42 l (.int x :: st) w) (by decide))
theorem f_30_42 (l : za_L) (st : List Value) (w : za_W) : za_n 30 (42, l, st, w) = za_x 30 (.ireturn) 42 l st w := za_n.at zcc_30 dX5_openRows_42 rfl
theorem f_30_43 (l : za_L) (st : List Value) (w : za_W) : za_n 30 (43, l, st, w) = za_x 30 (.iinc 1 1) 43 l st w := za_n.at zcc_30 dX5_openRows_43 rfl
theorem f_30_46 (l : za_L) (st : List Value) (w : za_W) : za_n 30 (46, l, st, w) = za_go 14 l st w := (za_n.at zcc_30 dX5_openRows_46 rfl).trans (za_jp.at (by decide))
theorem f_30_49 (l : za_L) (st : List Value) (w : za_W) : za_n 30 (49, l, st, w) = za_go 50 l (.int (1) :: st) w := (za_n.at zcc_30 dX5_openRows_49 rfl).trans (congrArg (fun x => za_go 50 l (.int x :: st) w) (by decide))
theorem f_30_50 (l : za_L) (st : List Value) (w : za_W) : za_n 30 (50, l, st, w) = za_x 30 (.ireturn) 50 l st w := za_n.at zcc_30 dX5_openRows_50 rfl
theorem f_31_0 (l : za_L) (st : List Value) (w : za_W) : za_n 31 (0, l, st, w) = za_x 31 (.aload_n 0) 0 l st w := za_n.at zcc_31 dX5_openAlone_0 rfl
theorem f_31_1 (l : za_L) (st : List Value) (w : za_W) : za_n 31 (1, l, st, w) = za_x 31 (.iload_n 1) 1 l st w := za_n.at zcc_31 dX5_openAlone_1 rfl
theorem f_31_2 (l : za_L) (st : List Value) (w : za_W) : za_n 31 (2, l, st, w) = za_go 4 l (.int (48) :: st) w := (za_n.at zcc_31 dX5_openAlone_2 rfl).trans (congrArg (fun x => za_go 4 l (.int x :: st) w) (by decide))
theorem f_31_4 (l : za_L) (st : List Value) (w : za_W) : za_n 31 (4, l, st, w) = za_x 31 (.iadd) 4 l st w := za_n.at zcc_31 dX5_openAlone_4 rfl
theorem f_31_5 (l : za_L) (st : List Value) (w : za_W) : za_n 31 (5, l, st, w) = za_x 31 (.invokevirtual 62) 5 l st w := za_n.at zcc_31 dX5_openAlone_5 rfl
theorem f_31_8 (l : za_L) (st : List Value) (w : za_W) : za_n 31 (8, l, st, w) = za_x 31 (.aload_n 0) 8 l st w := za_n.at zcc_31 dX5_openAlone_8 rfl
theorem f_31_9 (l : za_L) (st : List Value) (w : za_W) : za_n 31 (9, l, st, w) = za_go 12 l (.int (1800) :: st) w := (za_n.at zcc_31 dX5_openAlone_9 rfl).trans (congrArg (fun x => za_go 12 l (.int x :: st) w) (by decide))
theorem f_31_12 (l : za_L) (st : List Value) (w : za_W) : za_n 31 (12, l, st, w) = za_x 31 (.invokevirtual 78) 12 l st w := za_n.at zcc_31 dX5_openAlone_12 rfl
theorem f_31_15 (l : za_L) (st : List Value) (w : za_W) : za_n 31 (15, l, st, w) = za_x 31 (.ifCond .ne 5) 15 l st w := za_n.at zcc_31 dX5_openAlone_15 rfl
theorem f_31_18 (l : za_L) (st : List Value) (w : za_W) : za_n 31 (18, l, st, w) = za_go 19 l (.int (0) :: st) w := (za_n.at zcc_31 dX5_openAlone_18 rfl).trans (congrArg (fun x => za_go 19 l (.int x :: st) w) (by decide))
theorem f_31_19 (l : za_L) (st : List Value) (w : za_W) : za_n 31 (19, l, st, w) = za_x 31 (.ireturn) 19 l st w := za_n.at zcc_31 dX5_openAlone_19 rfl
theorem f_31_20 (l : za_L) (st : List Value) (w : za_W) : za_n 31 (20, l, st, w) = za_x 31 (.aload_n 0) 20 l st w := za_n.at zcc_31 dX5_openAlone_20 rfl
theorem f_31_21 (l : za_L) (st : List Value) (w : za_W) : za_n 31 (21, l, st, w) = za_x 31 (.getfield 40) 21 l st w := za_n.at zcc_31 dX5_openAlone_21 rfl
theorem f_31_24 (l : za_L) (st : List Value) (w : za_W) : za_n 31 (24, l, st, w) = za_x 31 (.invokevirtual 81) 24 l st w := za_n.at zcc_31 dX5_openAlone_24 rfl
theorem f_31_27 (l : za_L) (st : List Value) (w : za_W) : za_n 31 (27, l, st, w) = za_go 28 l (.int (1) :: st) w := (za_n.at zcc_31 dX5_openAlone_27 rfl).trans (congrArg (fun x => za_go 28 l (.int x :: st) w) (by decide))
theorem f_31_28 (l : za_L) (st : List Value) (w : za_W) : za_n 31 (28, l, st, w) = za_x 31 (.ireturn) 28 l st w := za_n.at zcc_31 dX5_openAlone_28 rfl
theorem f_32_0 (l : za_L) (st : List Value) (w : za_W) : za_n 32 (0, l, st, w) = za_x 32 (.aload_n 0) 0 l st w := za_n.at zcc_32 dX5_restart_0 rfl
theorem f_32_1 (l : za_L) (st : List Value) (w : za_W) : za_n 32 (1, l, st, w) = za_x 32 (.getfield 53) 1 l st w := za_n.at zcc_32 dX5_restart_1 rfl
theorem f_32_4 (l : za_L) (st : List Value) (w : za_W) : za_n 32 (4, l, st, w) = za_x 32 (.iload_n 1) 4 l st w := za_n.at zcc_32 dX5_restart_4 rfl
theorem f_32_5 (l : za_L) (st : List Value) (w : za_W) : za_n 32 (5, l, st, w) = za_x 32 (.putfield 84) 5 l st w := za_n.at zcc_32 dX5_restart_5 rfl
theorem f_32_8 (l : za_L) (st : List Value) (w : za_W) : za_n 32 (8, l, st, w) = za_x 32 (.aload_n 0) 8 l st w := za_n.at zcc_32 dX5_restart_8 rfl
theorem f_32_9 (l : za_L) (st : List Value) (w : za_W) : za_n 32 (9, l, st, w) = za_go 10 l (.int (0) :: st) w := (za_n.at zcc_32 dX5_restart_9 rfl).trans (congrArg (fun x => za_go 10 l (.int x :: st) w) (by decide))
theorem f_32_10 (l : za_L) (st : List Value) (w : za_W) : za_n 32 (10, l, st, w) = za_x 32 (.putfield 88) 10 l st w := za_n.at zcc_32 dX5_restart_10 rfl
theorem f_32_13 (l : za_L) (st : List Value) (w : za_W) : za_n 32 (13, l, st, w) = za_x 32 (.aload_n 0) 13 l st w := za_n.at zcc_32 dX5_restart_13 rfl
theorem f_32_14 (l : za_L) (st : List Value) (w : za_W) : za_n 32 (14, l, st, w) = za_x 32 (.getfield 36) 14 l st w := za_n.at zcc_32 dX5_restart_14 rfl
theorem f_32_17 (l : za_L) (st : List Value) (w : za_W) : za_n 32 (17, l, st, w) = za_go 18 l (.int (0) :: st) w := (za_n.at zcc_32 dX5_restart_17 rfl).trans (congrArg (fun x => za_go 18 l (.int x :: st) w) (by decide))
theorem f_32_18 (l : za_L) (st : List Value) (w : za_W) : za_n 32 (18, l, st, w) = za_x 32 (.invokevirtual 91) 18 l st w := za_n.at zcc_32 dX5_restart_18 rfl
theorem f_32_21 (l : za_L) (st : List Value) (w : za_W) : za_n 32 (21, l, st, w) = za_x 32 (.return_) 21 l st w := za_n.at zcc_32 dX5_restart_21 rfl
theorem f_33_0 (l : za_L) (st : List Value) (w : za_W) : za_n 33 (0, l, st, w) = za_x 33 (.aload_n 0) 0 l st w := za_n.at zcc_33 dX5_breaks_0 rfl
theorem f_33_1 (l : za_L) (st : List Value) (w : za_W) : za_n 33 (1, l, st, w) = za_x 33 (.iload_n 1) 1 l st w := za_n.at zcc_33 dX5_breaks_1 rfl
theorem f_33_2 (l : za_L) (st : List Value) (w : za_W) : za_n 33 (2, l, st, w) = za_x 33 (.putfield 88) 2 l st w := za_n.at zcc_33 dX5_breaks_2 rfl
theorem f_33_5 (l : za_L) (st : List Value) (w : za_W) : za_n 33 (5, l, st, w) = za_go 6 l (.int (0) :: st) w := (za_n.at zcc_33 dX5_breaks_5 rfl).trans (congrArg (fun x => za_go 6 l (.int x :: st) w) (by decide))
theorem f_33_6 (l : za_L) (st : List Value) (w : za_W) : za_n 33 (6, l, st, w) = za_x 33 (.ireturn) 6 l st w := za_n.at zcc_33 dX5_breaks_6 rfl
theorem f_34_0 (l : za_L) (st : List Value) (w : za_W) : za_n 34 (0, l, st, w) = za_x 34 (.aload_n 0) 0 l st w := za_n.at zcc_34 dX5_openRow_0 rfl
theorem f_34_1 (l : za_L) (st : List Value) (w : za_W) : za_n 34 (1, l, st, w) = za_x 34 (.invokevirtual 96) 1 l st w := za_n.at zcc_34 dX5_openRow_1 rfl
theorem f_34_4 (l : za_L) (st : List Value) (w : za_W) : za_n 34 (4, l, st, w) = za_x 34 (.ifCond .ne 5) 4 l st w := za_n.at zcc_34 dX5_openRow_4 rfl
theorem f_34_7 (l : za_L) (st : List Value) (w : za_W) : za_n 34 (7, l, st, w) = za_go 8 l (.int (0) :: st) w := (za_n.at zcc_34 dX5_openRow_7 rfl).trans (congrArg (fun x => za_go 8 l (.int x :: st) w) (by decide))
theorem f_34_8 (l : za_L) (st : List Value) (w : za_W) : za_n 34 (8, l, st, w) = za_x 34 (.ireturn) 8 l st w := za_n.at zcc_34 dX5_openRow_8 rfl
theorem f_34_9 (l : za_L) (st : List Value) (w : za_W) : za_n 34 (9, l, st, w) = za_go 10 l (.int (0) :: st) w := (za_n.at zcc_34 dX5_openRow_9 rfl).trans (congrArg (fun x => za_go 10 l (.int x :: st) w) (by decide))
theorem f_34_10 (l : za_L) (st : List Value) (w : za_W) : za_n 34 (10, l, st, w) = za_x 34 (.istore_n 2) 10 l st w := za_n.at zcc_34 dX5_openRow_10 rfl
theorem f_34_11 (l : za_L) (st : List Value) (w : za_W) : za_n 34 (11, l, st, w) = za_go 12 l (.int (0) :: st) w := (za_n.at zcc_34 dX5_openRow_11 rfl).trans (congrArg (fun x => za_go 12 l (.int x :: st) w) (by decide))
theorem f_34_12 (l : za_L) (st : List Value) (w : za_W) : za_n 34 (12, l, st, w) = za_x 34 (.istore_n 3) 12 l st w := za_n.at zcc_34 dX5_openRow_12 rfl
theorem f_34_13 (l : za_L) (st : List Value) (w : za_W) : za_n 34 (13, l, st, w) = za_x 34 (.iload_n 3) 13 l st w := za_n.at zcc_34 dX5_openRow_13 rfl
theorem f_34_14 (l : za_L) (st : List Value) (w : za_W) : za_n 34 (14, l, st, w) = za_go 17 l (.int (12000) :: st) w := (za_n.at zcc_34 dX5_openRow_14 rfl).trans (congrArg (fun x => za_go 17 l (.int x :: st) w) (by decide))
theorem f_34_17 (l : za_L) (st : List Value) (w : za_W) : za_n 34 (17, l, st, w) = za_x 34 (.if_icmp .ge 137) 17 l st w := za_n.at zcc_34 dX5_openRow_17 rfl
theorem f_34_20 (l : za_L) (st : List Value) (w : za_W) : za_n 34 (20, l, st, w) = za_x 34 (.aload_n 0) 20 l st w := za_n.at zcc_34 dX5_openRow_20 rfl
theorem f_34_21 (l : za_L) (st : List Value) (w : za_W) : za_n 34 (21, l, st, w) = za_x 34 (.getfield 53) 21 l st w := za_n.at zcc_34 dX5_openRow_21 rfl
theorem f_34_24 (l : za_L) (st : List Value) (w : za_W) : za_n 34 (24, l, st, w) = za_x 34 (.getfield 84) 24 l st w := za_n.at zcc_34 dX5_openRow_24 rfl
theorem f_34_27 (l : za_L) (st : List Value) (w : za_W) : za_n 34 (27, l, st, w) = za_x 34 (.istore 4) 27 l st w := za_n.at zcc_34 dX5_openRow_27 rfl
theorem f_34_29 (l : za_L) (st : List Value) (w : za_W) : za_n 34 (29, l, st, w) = za_x 34 (.aload_n 0) 29 l st w := za_n.at zcc_34 dX5_openRow_29 rfl
theorem f_34_30 (l : za_L) (st : List Value) (w : za_W) : za_n 34 (30, l, st, w) = za_x 34 (.getfield 53) 30 l st w := za_n.at zcc_34 dX5_openRow_30 rfl
theorem f_34_33 (l : za_L) (st : List Value) (w : za_W) : za_n 34 (33, l, st, w) = za_go 35 l (.int (48) :: st) w := (za_n.at zcc_34 dX5_openRow_33 rfl).trans (congrArg (fun x => za_go 35 l (.int x :: st) w) (by decide))
theorem f_34_35 (l : za_L) (st : List Value) (w : za_W) : za_n 34 (35, l, st, w) = za_x 34 (.invokevirtual 99) 35 l st w := za_n.at zcc_34 dX5_openRow_35 rfl
theorem f_34_38 (l : za_L) (st : List Value) (w : za_W) : za_n 34 (38, l, st, w) = za_x 34 (.lstore 5) 38 l st w := za_n.at zcc_34 dX5_openRow_38 rfl
theorem f_34_40 (l : za_L) (st : List Value) (w : za_W) : za_n 34 (40, l, st, w) = za_x 34 (.lload 5) 40 l st w := za_n.at zcc_34 dX5_openRow_40 rfl
theorem f_34_42 (l : za_L) (st : List Value) (w : za_W) : za_n 34 (42, l, st, w) = za_x 34 (.ldc2_w 103) 42 l st w := za_n.at zcc_34 dX5_openRow_42 rfl
theorem f_34_45 (l : za_L) (st : List Value) (w : za_W) : za_n 34 (45, l, st, w) = za_x 34 (.lcmp) 45 l st w := za_n.at zcc_34 dX5_openRow_45 rfl
theorem f_34_46 (l : za_L) (st : List Value) (w : za_W) : za_n 34 (46, l, st, w) = za_x 34 (.ifCond .ne 9) 46 l st w := za_n.at zcc_34 dX5_openRow_46 rfl
theorem f_34_49 (l : za_L) (st : List Value) (w : za_W) : za_n 34 (49, l, st, w) = za_x 34 (.aload_n 0) 49 l st w := za_n.at zcc_34 dX5_openRow_49 rfl
theorem f_34_50 (l : za_L) (st : List Value) (w : za_W) : za_n 34 (50, l, st, w) = za_go 51 l (.int (1) :: st) w := (za_n.at zcc_34 dX5_openRow_50 rfl).trans (congrArg (fun x => za_go 51 l (.int x :: st) w) (by decide))
theorem f_34_51 (l : za_L) (st : List Value) (w : za_W) : za_n 34 (51, l, st, w) = za_x 34 (.invokevirtual 105) 51 l st w := za_n.at zcc_34 dX5_openRow_51 rfl
theorem f_34_54 (l : za_L) (st : List Value) (w : za_W) : za_n 34 (54, l, st, w) = za_x 34 (.ireturn) 54 l st w := za_n.at zcc_34 dX5_openRow_54 rfl
theorem f_34_55 (l : za_L) (st : List Value) (w : za_W) : za_n 34 (55, l, st, w) = za_x 34 (.lload 5) 55 l st w := za_n.at zcc_34 dX5_openRow_55 rfl
theorem f_34_57 (l : za_L) (st : List Value) (w : za_W) : za_n 34 (57, l, st, w) = za_x 34 (.ldc2_w 108) 57 l st w := za_n.at zcc_34 dX5_openRow_57 rfl
theorem f_34_60 (l : za_L) (st : List Value) (w : za_W) : za_n 34 (60, l, st, w) = za_x 34 (.lcmp) 60 l st w := za_n.at zcc_34 dX5_openRow_60 rfl
theorem f_34_61 (l : za_L) (st : List Value) (w : za_W) : za_n 34 (61, l, st, w) = za_x 34 (.ifCond .ne 9) 61 l st w := za_n.at zcc_34 dX5_openRow_61 rfl
theorem f_34_64 (l : za_L) (st : List Value) (w : za_W) : za_n 34 (64, l, st, w) = za_x 34 (.aload_n 0) 64 l st w := za_n.at zcc_34 dX5_openRow_64 rfl
theorem f_34_65 (l : za_L) (st : List Value) (w : za_W) : za_n 34 (65, l, st, w) = za_x 34 (.iload_n 2) 65 l st w := za_n.at zcc_34 dX5_openRow_65 rfl
theorem f_34_66 (l : za_L) (st : List Value) (w : za_W) : za_n 34 (66, l, st, w) = za_x 34 (.invokevirtual 110) 66 l st w := za_n.at zcc_34 dX5_openRow_66 rfl
theorem f_34_69 (l : za_L) (st : List Value) (w : za_W) : za_n 34 (69, l, st, w) = za_x 34 (.ireturn) 69 l st w := za_n.at zcc_34 dX5_openRow_69 rfl
theorem f_34_70 (l : za_L) (st : List Value) (w : za_W) : za_n 34 (70, l, st, w) = za_x 34 (.lload 5) 70 l st w := za_n.at zcc_34 dX5_openRow_70 rfl
theorem f_34_72 (l : za_L) (st : List Value) (w : za_W) : za_n 34 (72, l, st, w) = za_x 34 (.ldc2_w 113) 72 l st w := za_n.at zcc_34 dX5_openRow_72 rfl
theorem f_34_75 (l : za_L) (st : List Value) (w : za_W) : za_n 34 (75, l, st, w) = za_x 34 (.lcmp) 75 l st w := za_n.at zcc_34 dX5_openRow_75 rfl
theorem f_34_76 (l : za_L) (st : List Value) (w : za_W) : za_n 34 (76, l, st, w) = za_x 34 (.ifCond .eq 9) 76 l st w := za_n.at zcc_34 dX5_openRow_76 rfl
theorem f_34_79 (l : za_L) (st : List Value) (w : za_W) : za_n 34 (79, l, st, w) = za_x 34 (.aload_n 0) 79 l st w := za_n.at zcc_34 dX5_openRow_79 rfl
theorem f_34_80 (l : za_L) (st : List Value) (w : za_W) : za_n 34 (80, l, st, w) = za_go 81 l (.int (3) :: st) w := (za_n.at zcc_34 dX5_openRow_80 rfl).trans (congrArg (fun x => za_go 81 l (.int x :: st) w) (by decide))
theorem f_34_81 (l : za_L) (st : List Value) (w : za_W) : za_n 34 (81, l, st, w) = za_x 34 (.invokevirtual 105) 81 l st w := za_n.at zcc_34 dX5_openRow_81 rfl
theorem f_34_84 (l : za_L) (st : List Value) (w : za_W) : za_n 34 (84, l, st, w) = za_x 34 (.ireturn) 84 l st w := za_n.at zcc_34 dX5_openRow_84 rfl
theorem f_34_85 (l : za_L) (st : List Value) (w : za_W) : za_n 34 (85, l, st, w) = za_x 34 (.aload_n 0) 85 l st w := za_n.at zcc_34 dX5_openRow_85 rfl
theorem f_34_86 (l : za_L) (st : List Value) (w : za_W) : za_n 34 (86, l, st, w) = za_x 34 (.getfield 40) 86 l st w := za_n.at zcc_34 dX5_openRow_86 rfl
theorem f_34_89 (l : za_L) (st : List Value) (w : za_W) : za_n 34 (89, l, st, w) = za_go 90 l (.int (0) :: st) w := (za_n.at zcc_34 dX5_openRow_89 rfl).trans (congrArg (fun x => za_go 90 l (.int x :: st) w) (by decide))
theorem f_34_90 (l : za_L) (st : List Value) (w : za_W) : za_n 34 (90, l, st, w) = za_x 34 (.iload 4) 90 l st w := za_n.at zcc_34 dX5_openRow_90 rfl
theorem f_34_92 (l : za_L) (st : List Value) (w : za_W) : za_n 34 (92, l, st, w) = za_x 34 (.invokevirtual 115) 92 l st w := za_n.at zcc_34 dX5_openRow_92 rfl
theorem f_34_95 (l : za_L) (st : List Value) (w : za_W) : za_n 34 (95, l, st, w) = za_x 34 (.aload_n 0) 95 l st w := za_n.at zcc_34 dX5_openRow_95 rfl
theorem f_34_96 (l : za_L) (st : List Value) (w : za_W) : za_n 34 (96, l, st, w) = za_x 34 (.getfield 40) 96 l st w := za_n.at zcc_34 dX5_openRow_96 rfl
theorem f_34_99 (l : za_L) (st : List Value) (w : za_W) : za_n 34 (99, l, st, w) = za_go 101 l (.int (7) :: st) w := (za_n.at zcc_34 dX5_openRow_99 rfl).trans (congrArg (fun x => za_go 101 l (.int x :: st) w) (by decide))
theorem f_34_101 (l : za_L) (st : List Value) (w : za_W) : za_n 34 (101, l, st, w) = za_x 34 (.iload_n 1) 101 l st w := za_n.at zcc_34 dX5_openRow_101 rfl
theorem f_34_102 (l : za_L) (st : List Value) (w : za_W) : za_n 34 (102, l, st, w) = za_x 34 (.invokevirtual 115) 102 l st w := za_n.at zcc_34 dX5_openRow_102 rfl
theorem f_34_105 (l : za_L) (st : List Value) (w : za_W) : za_n 34 (105, l, st, w) = za_x 34 (.aload_n 0) 105 l st w := za_n.at zcc_34 dX5_openRow_105 rfl
theorem f_34_106 (l : za_L) (st : List Value) (w : za_W) : za_n 34 (106, l, st, w) = za_x 34 (.aload_n 0) 106 l st w := za_n.at zcc_34 dX5_openRow_106 rfl
theorem f_34_107 (l : za_L) (st : List Value) (w : za_W) : za_n 34 (107, l, st, w) = za_x 34 (.getfield 119) 107 l st w := za_n.at zcc_34 dX5_openRow_107 rfl
theorem f_34_110 (l : za_L) (st : List Value) (w : za_W) : za_n 34 (110, l, st, w) = za_go 113 l (.int (200) :: st) w := (za_n.at zcc_34 dX5_openRow_110 rfl).trans (congrArg (fun x => za_go 113 l (.int x :: st) w) (by decide))
theorem f_34_113 (l : za_L) (st : List Value) (w : za_W) : za_n 34 (113, l, st, w) = za_x 34 (.imul) 113 l st w := za_n.at zcc_34 dX5_openRow_113 rfl
theorem f_34_114 (l : za_L) (st : List Value) (w : za_W) : za_n 34 (114, l, st, w) = za_x 34 (.invokevirtual 78) 114 l st w := za_n.at zcc_34 dX5_openRow_114 rfl
theorem f_34_117 (l : za_L) (st : List Value) (w : za_W) : za_n 34 (117, l, st, w) = za_x 34 (.ifCond .ne 5) 117 l st w := za_n.at zcc_34 dX5_openRow_117 rfl
theorem f_34_120 (l : za_L) (st : List Value) (w : za_W) : za_n 34 (120, l, st, w) = za_go 121 l (.int (0) :: st) w := (za_n.at zcc_34 dX5_openRow_120 rfl).trans (congrArg (fun x => za_go 121 l (.int x :: st) w) (by decide))
theorem f_34_121 (l : za_L) (st : List Value) (w : za_W) : za_n 34 (121, l, st, w) = za_x 34 (.ireturn) 121 l st w := za_n.at zcc_34 dX5_openRow_121 rfl
theorem f_34_122 (l : za_L) (st : List Value) (w : za_W) : za_n 34 (122, l, st, w) = za_x 34 (.iload_n 2) 122 l st w := za_n.at zcc_34 dX5_openRow_122 rfl
theorem f_34_123 (l : za_L) (st : List Value) (w : za_W) : za_n 34 (123, l, st, w) = za_x 34 (.aload_n 0) 123 l st w := za_n.at zcc_34 dX5_openRow_123 rfl
theorem f_34_124 (l : za_L) (st : List Value) (w : za_W) : za_n 34 (124, l, st, w) = za_x 34 (.getfield 40) 124 l st w := za_n.at zcc_34 dX5_openRow_124 rfl
theorem f_34_127 (l : za_L) (st : List Value) (w : za_W) : za_n 34 (127, l, st, w) = za_x 34 (.getfield 122) 127 l st w := za_n.at zcc_34 dX5_openRow_127 rfl
theorem f_34_130 (l : za_L) (st : List Value) (w : za_W) : za_n 34 (130, l, st, w) = za_x 34 (.invokestatic 125) 130 l st w := za_n.at zcc_34 dX5_openRow_130 rfl
theorem f_34_133 (l : za_L) (st : List Value) (w : za_W) : za_n 34 (133, l, st, w) = za_x 34 (.istore_n 2) 133 l st w := za_n.at zcc_34 dX5_openRow_133 rfl
theorem f_34_134 (l : za_L) (st : List Value) (w : za_W) : za_n 34 (134, l, st, w) = za_x 34 (.aload_n 0) 134 l st w := za_n.at zcc_34 dX5_openRow_134 rfl
theorem f_34_135 (l : za_L) (st : List Value) (w : za_W) : za_n 34 (135, l, st, w) = za_x 34 (.getfield 40) 135 l st w := za_n.at zcc_34 dX5_openRow_135 rfl
theorem f_34_138 (l : za_L) (st : List Value) (w : za_W) : za_n 34 (138, l, st, w) = za_x 34 (.invokevirtual 129) 138 l st w := za_n.at zcc_34 dX5_openRow_138 rfl
theorem f_34_141 (l : za_L) (st : List Value) (w : za_W) : za_n 34 (141, l, st, w) = za_x 34 (.aload_n 0) 141 l st w := za_n.at zcc_34 dX5_openRow_141 rfl
theorem f_34_142 (l : za_L) (st : List Value) (w : za_W) : za_n 34 (142, l, st, w) = za_x 34 (.getfield 40) 142 l st w := za_n.at zcc_34 dX5_openRow_142 rfl
theorem f_34_145 (l : za_L) (st : List Value) (w : za_W) : za_n 34 (145, l, st, w) = za_x 34 (.invokevirtual 81) 145 l st w := za_n.at zcc_34 dX5_openRow_145 rfl
theorem f_34_148 (l : za_L) (st : List Value) (w : za_W) : za_n 34 (148, l, st, w) = za_x 34 (.iinc 3 1) 148 l st w := za_n.at zcc_34 dX5_openRow_148 rfl
theorem f_34_151 (l : za_L) (st : List Value) (w : za_W) : za_n 34 (151, l, st, w) = za_go 13 l st w := (za_n.at zcc_34 dX5_openRow_151 rfl).trans (za_jp.at (by decide))
theorem f_34_154 (l : za_L) (st : List Value) (w : za_W) : za_n 34 (154, l, st, w) = za_go 155 l (.int (1) :: st) w := (za_n.at zcc_34 dX5_openRow_154 rfl).trans (congrArg (fun x => za_go 155 l (.int x :: st) w) (by decide))
theorem f_34_155 (l : za_L) (st : List Value) (w : za_W) : za_n 34 (155, l, st, w) = za_x 34 (.ireturn) 155 l st w := za_n.at zcc_34 dX5_openRow_155 rfl
theorem f_35_0 (l : za_L) (st : List Value) (w : za_W) : za_n 35 (0, l, st, w) = za_go 1 l (.int (0) :: st) w := (za_n.at zcc_35 dX5_readRowHead_0 rfl).trans (congrArg (fun x => za_go 1 l (.int x :: st) w) (by decide))
theorem f_35_1 (l : za_L) (st : List Value) (w : za_W) : za_n 35 (1, l, st, w) = za_x 35 (.istore_n 1) 1 l st w := za_n.at zcc_35 dX5_readRowHead_1 rfl
theorem f_35_2 (l : za_L) (st : List Value) (w : za_W) : za_n 35 (2, l, st, w) = za_x 35 (.iload_n 1) 2 l st w := za_n.at zcc_35 dX5_readRowHead_2 rfl
theorem f_35_3 (l : za_L) (st : List Value) (w : za_W) : za_n 35 (3, l, st, w) = za_go 4 l (.int (4) :: st) w := (za_n.at zcc_35 dX5_readRowHead_3 rfl).trans (congrArg (fun x => za_go 4 l (.int x :: st) w) (by decide))
theorem f_35_4 (l : za_L) (st : List Value) (w : za_W) : za_n 35 (4, l, st, w) = za_x 35 (.if_icmp .ge 53) 4 l st w := za_n.at zcc_35 dX5_readRowHead_4 rfl
theorem f_35_7 (l : za_L) (st : List Value) (w : za_W) : za_n 35 (7, l, st, w) = za_x 35 (.aload_n 0) 7 l st w := za_n.at zcc_35 dX5_readRowHead_7 rfl
theorem f_35_8 (l : za_L) (st : List Value) (w : za_W) : za_n 35 (8, l, st, w) = za_x 35 (.getfield 53) 8 l st w := za_n.at zcc_35 dX5_readRowHead_8 rfl
theorem f_35_11 (l : za_L) (st : List Value) (w : za_W) : za_n 35 (11, l, st, w) = za_go 13 l (.int (8) :: st) w := (za_n.at zcc_35 dX5_readRowHead_11 rfl).trans (congrArg (fun x => za_go 13 l (.int x :: st) w) (by decide))
theorem f_35_13 (l : za_L) (st : List Value) (w : za_W) : za_n 35 (13, l, st, w) = za_x 35 (.invokevirtual 99) 13 l st w := za_n.at zcc_35 dX5_readRowHead_13 rfl
theorem f_35_16 (l : za_L) (st : List Value) (w : za_W) : za_n 35 (16, l, st, w) = za_x 35 (.l2i) 16 l st w := za_n.at zcc_35 dX5_readRowHead_16 rfl
theorem f_35_17 (l : za_L) (st : List Value) (w : za_W) : za_n 35 (17, l, st, w) = za_x 35 (.istore_n 2) 17 l st w := za_n.at zcc_35 dX5_readRowHead_17 rfl
theorem f_35_18 (l : za_L) (st : List Value) (w : za_W) : za_n 35 (18, l, st, w) = za_x 35 (.iload_n 2) 18 l st w := za_n.at zcc_35 dX5_readRowHead_18 rfl
theorem f_35_19 (l : za_L) (st : List Value) (w : za_W) : za_n 35 (19, l, st, w) = za_go 20 l (.int (-1) :: st) w := (za_n.at zcc_35 dX5_readRowHead_19 rfl).trans (congrArg (fun x => za_go 20 l (.int x :: st) w) (by decide))
theorem f_35_20 (l : za_L) (st : List Value) (w : za_W) : za_n 35 (20, l, st, w) = za_x 35 (.if_icmp .ne 9) 20 l st w := za_n.at zcc_35 dX5_readRowHead_20 rfl
theorem f_35_23 (l : za_L) (st : List Value) (w : za_W) : za_n 35 (23, l, st, w) = za_x 35 (.aload_n 0) 23 l st w := za_n.at zcc_35 dX5_readRowHead_23 rfl
theorem f_35_24 (l : za_L) (st : List Value) (w : za_W) : za_n 35 (24, l, st, w) = za_go 25 l (.int (1) :: st) w := (za_n.at zcc_35 dX5_readRowHead_24 rfl).trans (congrArg (fun x => za_go 25 l (.int x :: st) w) (by decide))
theorem f_35_25 (l : za_L) (st : List Value) (w : za_W) : za_n 35 (25, l, st, w) = za_x 35 (.invokevirtual 105) 25 l st w := za_n.at zcc_35 dX5_readRowHead_25 rfl
theorem f_35_28 (l : za_L) (st : List Value) (w : za_W) : za_n 35 (28, l, st, w) = za_x 35 (.ireturn) 28 l st w := za_n.at zcc_35 dX5_readRowHead_28 rfl
theorem f_35_29 (l : za_L) (st : List Value) (w : za_W) : za_n 35 (29, l, st, w) = za_x 35 (.iload_n 1) 29 l st w := za_n.at zcc_35 dX5_readRowHead_29 rfl
theorem f_35_30 (l : za_L) (st : List Value) (w : za_W) : za_n 35 (30, l, st, w) = za_x 35 (.iload_n 2) 30 l st w := za_n.at zcc_35 dX5_readRowHead_30 rfl
theorem f_35_31 (l : za_L) (st : List Value) (w : za_W) : za_n 35 (31, l, st, w) = za_x 35 (.invokestatic 132) 31 l st w := za_n.at zcc_35 dX5_readRowHead_31 rfl
theorem f_35_34 (l : za_L) (st : List Value) (w : za_W) : za_n 35 (34, l, st, w) = za_x 35 (.ifCond .ne 9) 34 l st w := za_n.at zcc_35 dX5_readRowHead_34 rfl
theorem f_35_37 (l : za_L) (st : List Value) (w : za_W) : za_n 35 (37, l, st, w) = za_x 35 (.aload_n 0) 37 l st w := za_n.at zcc_35 dX5_readRowHead_37 rfl
theorem f_35_38 (l : za_L) (st : List Value) (w : za_W) : za_n 35 (38, l, st, w) = za_go 39 l (.int (2) :: st) w := (za_n.at zcc_35 dX5_readRowHead_38 rfl).trans (congrArg (fun x => za_go 39 l (.int x :: st) w) (by decide))
theorem f_35_39 (l : za_L) (st : List Value) (w : za_W) : za_n 35 (39, l, st, w) = za_x 35 (.invokevirtual 105) 39 l st w := za_n.at zcc_35 dX5_readRowHead_39 rfl
theorem f_35_42 (l : za_L) (st : List Value) (w : za_W) : za_n 35 (42, l, st, w) = za_x 35 (.ireturn) 42 l st w := za_n.at zcc_35 dX5_readRowHead_42 rfl
theorem f_35_43 (l : za_L) (st : List Value) (w : za_W) : za_n 35 (43, l, st, w) = za_x 35 (.aload_n 0) 43 l st w := za_n.at zcc_35 dX5_readRowHead_43 rfl
theorem f_35_44 (l : za_L) (st : List Value) (w : za_W) : za_n 35 (44, l, st, w) = za_x 35 (.iload_n 2) 44 l st w := za_n.at zcc_35 dX5_readRowHead_44 rfl
theorem f_35_45 (l : za_L) (st : List Value) (w : za_W) : za_n 35 (45, l, st, w) = za_go 47 l (.int (48) :: st) w := (za_n.at zcc_35 dX5_readRowHead_45 rfl).trans (congrArg (fun x => za_go 47 l (.int x :: st) w) (by decide))
theorem f_35_47 (l : za_L) (st : List Value) (w : za_W) : za_n 35 (47, l, st, w) = za_x 35 (.isub) 47 l st w := za_n.at zcc_35 dX5_readRowHead_47 rfl
theorem f_35_48 (l : za_L) (st : List Value) (w : za_W) : za_n 35 (48, l, st, w) = za_x 35 (.putfield 119) 48 l st w := za_n.at zcc_35 dX5_readRowHead_48 rfl
theorem f_35_51 (l : za_L) (st : List Value) (w : za_W) : za_n 35 (51, l, st, w) = za_x 35 (.iinc 1 1) 51 l st w := za_n.at zcc_35 dX5_readRowHead_51 rfl
theorem f_35_54 (l : za_L) (st : List Value) (w : za_W) : za_n 35 (54, l, st, w) = za_go 2 l st w := (za_n.at zcc_35 dX5_readRowHead_54 rfl).trans (za_jp.at (by decide))
theorem f_35_57 (l : za_L) (st : List Value) (w : za_W) : za_n 35 (57, l, st, w) = za_go 58 l (.int (1) :: st) w := (za_n.at zcc_35 dX5_readRowHead_57 rfl).trans (congrArg (fun x => za_go 58 l (.int x :: st) w) (by decide))
theorem f_35_58 (l : za_L) (st : List Value) (w : za_W) : za_n 35 (58, l, st, w) = za_x 35 (.ireturn) 58 l st w := za_n.at zcc_35 dX5_readRowHead_58 rfl
theorem f_36_0 (l : za_L) (st : List Value) (w : za_W) : za_n 36 (0, l, st, w) = za_x 36 (.iload_n 0) 0 l st w := za_n.at zcc_36 dX5_fitsHead_0 rfl
theorem f_36_1 (l : za_L) (st : List Value) (w : za_W) : za_n 36 (1, l, st, w) = za_x 36 (.tableswitch 63 0 2 #[27, 39, 51]) 1 l st w := za_n.at zcc_36 dX5_fitsHead_1 rfl
theorem f_36_28 (l : za_L) (st : List Value) (w : za_W) : za_n 36 (28, l, st, w) = za_x 36 (.iload_n 1) 28 l st w := za_n.at zcc_36 dX5_fitsHead_28 rfl
theorem f_36_29 (l : za_L) (st : List Value) (w : za_W) : za_n 36 (29, l, st, w) = za_go 31 l (.int (66) :: st) w := (za_n.at zcc_36 dX5_fitsHead_29 rfl).trans (congrArg (fun x => za_go 31 l (.int x :: st) w) (by decide))
theorem f_36_31 (l : za_L) (st : List Value) (w : za_W) : za_n 36 (31, l, st, w) = za_x 36 (.if_icmp .ne 7) 31 l st w := za_n.at zcc_36 dX5_fitsHead_31 rfl
theorem f_36_34 (l : za_L) (st : List Value) (w : za_W) : za_n 36 (34, l, st, w) = za_go 35 l (.int (1) :: st) w := (za_n.at zcc_36 dX5_fitsHead_34 rfl).trans (congrArg (fun x => za_go 35 l (.int x :: st) w) (by decide))
theorem f_36_35 (l : za_L) (st : List Value) (w : za_W) : za_n 36 (35, l, st, w) = za_go 39 l st w := (za_n.at zcc_36 dX5_fitsHead_35 rfl).trans (za_jp.at (by decide))
theorem f_36_38 (l : za_L) (st : List Value) (w : za_W) : za_n 36 (38, l, st, w) = za_go 39 l (.int (0) :: st) w := (za_n.at zcc_36 dX5_fitsHead_38 rfl).trans (congrArg (fun x => za_go 39 l (.int x :: st) w) (by decide))
theorem f_36_39 (l : za_L) (st : List Value) (w : za_W) : za_n 36 (39, l, st, w) = za_x 36 (.ireturn) 39 l st w := za_n.at zcc_36 dX5_fitsHead_39 rfl
theorem f_36_40 (l : za_L) (st : List Value) (w : za_W) : za_n 36 (40, l, st, w) = za_x 36 (.iload_n 1) 40 l st w := za_n.at zcc_36 dX5_fitsHead_40 rfl
theorem f_36_41 (l : za_L) (st : List Value) (w : za_W) : za_n 36 (41, l, st, w) = za_go 43 l (.int (90) :: st) w := (za_n.at zcc_36 dX5_fitsHead_41 rfl).trans (congrArg (fun x => za_go 43 l (.int x :: st) w) (by decide))
theorem f_36_43 (l : za_L) (st : List Value) (w : za_W) : za_n 36 (43, l, st, w) = za_x 36 (.if_icmp .ne 7) 43 l st w := za_n.at zcc_36 dX5_fitsHead_43 rfl
theorem f_36_46 (l : za_L) (st : List Value) (w : za_W) : za_n 36 (46, l, st, w) = za_go 47 l (.int (1) :: st) w := (za_n.at zcc_36 dX5_fitsHead_46 rfl).trans (congrArg (fun x => za_go 47 l (.int x :: st) w) (by decide))
theorem f_36_47 (l : za_L) (st : List Value) (w : za_W) : za_n 36 (47, l, st, w) = za_go 51 l st w := (za_n.at zcc_36 dX5_fitsHead_47 rfl).trans (za_jp.at (by decide))
theorem f_36_50 (l : za_L) (st : List Value) (w : za_W) : za_n 36 (50, l, st, w) = za_go 51 l (.int (0) :: st) w := (za_n.at zcc_36 dX5_fitsHead_50 rfl).trans (congrArg (fun x => za_go 51 l (.int x :: st) w) (by decide))
theorem f_36_51 (l : za_L) (st : List Value) (w : za_W) : za_n 36 (51, l, st, w) = za_x 36 (.ireturn) 51 l st w := za_n.at zcc_36 dX5_fitsHead_51 rfl
theorem f_36_52 (l : za_L) (st : List Value) (w : za_W) : za_n 36 (52, l, st, w) = za_x 36 (.iload_n 1) 52 l st w := za_n.at zcc_36 dX5_fitsHead_52 rfl
theorem f_36_53 (l : za_L) (st : List Value) (w : za_W) : za_n 36 (53, l, st, w) = za_go 55 l (.int (104) :: st) w := (za_n.at zcc_36 dX5_fitsHead_53 rfl).trans (congrArg (fun x => za_go 55 l (.int x :: st) w) (by decide))
theorem f_36_55 (l : za_L) (st : List Value) (w : za_W) : za_n 36 (55, l, st, w) = za_x 36 (.if_icmp .ne 7) 55 l st w := za_n.at zcc_36 dX5_fitsHead_55 rfl
theorem f_36_58 (l : za_L) (st : List Value) (w : za_W) : za_n 36 (58, l, st, w) = za_go 59 l (.int (1) :: st) w := (za_n.at zcc_36 dX5_fitsHead_58 rfl).trans (congrArg (fun x => za_go 59 l (.int x :: st) w) (by decide))
theorem f_36_59 (l : za_L) (st : List Value) (w : za_W) : za_n 36 (59, l, st, w) = za_go 63 l st w := (za_n.at zcc_36 dX5_fitsHead_59 rfl).trans (za_jp.at (by decide))
theorem f_36_62 (l : za_L) (st : List Value) (w : za_W) : za_n 36 (62, l, st, w) = za_go 63 l (.int (0) :: st) w := (za_n.at zcc_36 dX5_fitsHead_62 rfl).trans (congrArg (fun x => za_go 63 l (.int x :: st) w) (by decide))
theorem f_36_63 (l : za_L) (st : List Value) (w : za_W) : za_n 36 (63, l, st, w) = za_x 36 (.ireturn) 63 l st w := za_n.at zcc_36 dX5_fitsHead_63 rfl
theorem f_36_64 (l : za_L) (st : List Value) (w : za_W) : za_n 36 (64, l, st, w) = za_x 36 (.iload_n 1) 64 l st w := za_n.at zcc_36 dX5_fitsHead_64 rfl
theorem f_36_65 (l : za_L) (st : List Value) (w : za_W) : za_n 36 (65, l, st, w) = za_go 67 l (.int (48) :: st) w := (za_n.at zcc_36 dX5_fitsHead_65 rfl).trans (congrArg (fun x => za_go 67 l (.int x :: st) w) (by decide))
theorem f_36_67 (l : za_L) (st : List Value) (w : za_W) : za_n 36 (67, l, st, w) = za_x 36 (.if_icmp .le 13) 67 l st w := za_n.at zcc_36 dX5_fitsHead_67 rfl
theorem f_36_70 (l : za_L) (st : List Value) (w : za_W) : za_n 36 (70, l, st, w) = za_x 36 (.iload_n 1) 70 l st w := za_n.at zcc_36 dX5_fitsHead_70 rfl
theorem f_36_71 (l : za_L) (st : List Value) (w : za_W) : za_n 36 (71, l, st, w) = za_go 73 l (.int (57) :: st) w := (za_n.at zcc_36 dX5_fitsHead_71 rfl).trans (congrArg (fun x => za_go 73 l (.int x :: st) w) (by decide))
theorem f_36_73 (l : za_L) (st : List Value) (w : za_W) : za_n 36 (73, l, st, w) = za_x 36 (.if_icmp .gt 7) 73 l st w := za_n.at zcc_36 dX5_fitsHead_73 rfl
theorem f_36_76 (l : za_L) (st : List Value) (w : za_W) : za_n 36 (76, l, st, w) = za_go 77 l (.int (1) :: st) w := (za_n.at zcc_36 dX5_fitsHead_76 rfl).trans (congrArg (fun x => za_go 77 l (.int x :: st) w) (by decide))
theorem f_36_77 (l : za_L) (st : List Value) (w : za_W) : za_n 36 (77, l, st, w) = za_go 81 l st w := (za_n.at zcc_36 dX5_fitsHead_77 rfl).trans (za_jp.at (by decide))
theorem f_36_80 (l : za_L) (st : List Value) (w : za_W) : za_n 36 (80, l, st, w) = za_go 81 l (.int (0) :: st) w := (za_n.at zcc_36 dX5_fitsHead_80 rfl).trans (congrArg (fun x => za_go 81 l (.int x :: st) w) (by decide))
theorem f_36_81 (l : za_L) (st : List Value) (w : za_W) : za_n 36 (81, l, st, w) = za_x 36 (.ireturn) 81 l st w := za_n.at zcc_36 dX5_fitsHead_81 rfl
theorem f_37_0 (l : za_L) (st : List Value) (w : za_W) : za_n 37 (0, l, st, w) = za_x 37 (.aload_n 0) 0 l st w := za_n.at zcc_37 dX5_readRowEnd_0 rfl
theorem f_37_1 (l : za_L) (st : List Value) (w : za_W) : za_n 37 (1, l, st, w) = za_x 37 (.getfield 53) 1 l st w := za_n.at zcc_37 dX5_readRowEnd_1 rfl
theorem f_37_4 (l : za_L) (st : List Value) (w : za_W) : za_n 37 (4, l, st, w) = za_go 6 l (.int (32) :: st) w := (za_n.at zcc_37 dX5_readRowEnd_4 rfl).trans (congrArg (fun x => za_go 6 l (.int x :: st) w) (by decide))
theorem f_37_6 (l : za_L) (st : List Value) (w : za_W) : za_n 37 (6, l, st, w) = za_x 37 (.invokevirtual 99) 6 l st w := za_n.at zcc_37 dX5_readRowEnd_6 rfl
theorem f_37_9 (l : za_L) (st : List Value) (w : za_W) : za_n 37 (9, l, st, w) = za_x 37 (.lstore_n 2) 9 l st w := za_n.at zcc_37 dX5_readRowEnd_9 rfl
theorem f_37_10 (l : za_L) (st : List Value) (w : za_W) : za_n 37 (10, l, st, w) = za_x 37 (.lload_n 2) 10 l st w := za_n.at zcc_37 dX5_readRowEnd_10 rfl
theorem f_37_11 (l : za_L) (st : List Value) (w : za_W) : za_n 37 (11, l, st, w) = za_x 37 (.ldc2_w 103) 11 l st w := za_n.at zcc_37 dX5_readRowEnd_11 rfl
theorem f_37_14 (l : za_L) (st : List Value) (w : za_W) : za_n 37 (14, l, st, w) = za_x 37 (.lcmp) 14 l st w := za_n.at zcc_37 dX5_readRowEnd_14 rfl
theorem f_37_15 (l : za_L) (st : List Value) (w : za_W) : za_n 37 (15, l, st, w) = za_x 37 (.ifCond .ne 9) 15 l st w := za_n.at zcc_37 dX5_readRowEnd_15 rfl
theorem f_37_18 (l : za_L) (st : List Value) (w : za_W) : za_n 37 (18, l, st, w) = za_x 37 (.aload_n 0) 18 l st w := za_n.at zcc_37 dX5_readRowEnd_18 rfl
theorem f_37_19 (l : za_L) (st : List Value) (w : za_W) : za_n 37 (19, l, st, w) = za_go 20 l (.int (1) :: st) w := (za_n.at zcc_37 dX5_readRowEnd_19 rfl).trans (congrArg (fun x => za_go 20 l (.int x :: st) w) (by decide))
theorem f_37_20 (l : za_L) (st : List Value) (w : za_W) : za_n 37 (20, l, st, w) = za_x 37 (.invokevirtual 105) 20 l st w := za_n.at zcc_37 dX5_readRowEnd_20 rfl
theorem f_37_23 (l : za_L) (st : List Value) (w : za_W) : za_n 37 (23, l, st, w) = za_x 37 (.ireturn) 23 l st w := za_n.at zcc_37 dX5_readRowEnd_23 rfl
theorem f_37_24 (l : za_L) (st : List Value) (w : za_W) : za_n 37 (24, l, st, w) = za_x 37 (.lload_n 2) 24 l st w := za_n.at zcc_37 dX5_readRowEnd_24 rfl
theorem f_37_25 (l : za_L) (st : List Value) (w : za_W) : za_n 37 (25, l, st, w) = za_x 37 (.iload_n 1) 25 l st w := za_n.at zcc_37 dX5_readRowEnd_25 rfl
theorem f_37_26 (l : za_L) (st : List Value) (w : za_W) : za_n 37 (26, l, st, w) = za_x 37 (.i2l) 26 l st w := za_n.at zcc_37 dX5_readRowEnd_26 rfl
theorem f_37_27 (l : za_L) (st : List Value) (w : za_W) : za_n 37 (27, l, st, w) = za_x 37 (.ldc2_w 136) 27 l st w := za_n.at zcc_37 dX5_readRowEnd_27 rfl
theorem f_37_30 (l : za_L) (st : List Value) (w : za_W) : za_n 37 (30, l, st, w) = za_x 37 (.land) 30 l st w := za_n.at zcc_37 dX5_readRowEnd_30 rfl
theorem f_37_31 (l : za_L) (st : List Value) (w : za_W) : za_n 37 (31, l, st, w) = za_x 37 (.lcmp) 31 l st w := za_n.at zcc_37 dX5_readRowEnd_31 rfl
theorem f_37_32 (l : za_L) (st : List Value) (w : za_W) : za_n 37 (32, l, st, w) = za_x 37 (.ifCond .eq 10) 32 l st w := za_n.at zcc_37 dX5_readRowEnd_32 rfl
theorem f_37_35 (l : za_L) (st : List Value) (w : za_W) : za_n 37 (35, l, st, w) = za_x 37 (.aload_n 0) 35 l st w := za_n.at zcc_37 dX5_readRowEnd_35 rfl
theorem f_37_36 (l : za_L) (st : List Value) (w : za_W) : za_n 37 (36, l, st, w) = za_go 38 l (.int (13) :: st) w := (za_n.at zcc_37 dX5_readRowEnd_36 rfl).trans (congrArg (fun x => za_go 38 l (.int x :: st) w) (by decide))
theorem f_37_38 (l : za_L) (st : List Value) (w : za_W) : za_n 37 (38, l, st, w) = za_x 37 (.invokevirtual 105) 38 l st w := za_n.at zcc_37 dX5_readRowEnd_38 rfl
theorem f_37_41 (l : za_L) (st : List Value) (w : za_W) : za_n 37 (41, l, st, w) = za_x 37 (.ireturn) 41 l st w := za_n.at zcc_37 dX5_readRowEnd_41 rfl
theorem f_37_42 (l : za_L) (st : List Value) (w : za_W) : za_n 37 (42, l, st, w) = za_go 43 l (.int (0) :: st) w := (za_n.at zcc_37 dX5_readRowEnd_42 rfl).trans (congrArg (fun x => za_go 43 l (.int x :: st) w) (by decide))
theorem f_37_43 (l : za_L) (st : List Value) (w : za_W) : za_n 37 (43, l, st, w) = za_x 37 (.istore 4) 43 l st w := za_n.at zcc_37 dX5_readRowEnd_43 rfl
theorem f_37_45 (l : za_L) (st : List Value) (w : za_W) : za_n 37 (45, l, st, w) = za_x 37 (.iload 4) 45 l st w := za_n.at zcc_37 dX5_readRowEnd_45 rfl
theorem f_37_47 (l : za_L) (st : List Value) (w : za_W) : za_n 37 (47, l, st, w) = za_go 49 l (.int (7) :: st) w := (za_n.at zcc_37 dX5_readRowEnd_47 rfl).trans (congrArg (fun x => za_go 49 l (.int x :: st) w) (by decide))
theorem f_37_49 (l : za_L) (st : List Value) (w : za_W) : za_n 37 (49, l, st, w) = za_x 37 (.if_icmp .ge 39) 49 l st w := za_n.at zcc_37 dX5_readRowEnd_49 rfl
theorem f_37_52 (l : za_L) (st : List Value) (w : za_W) : za_n 37 (52, l, st, w) = za_x 37 (.aload_n 0) 52 l st w := za_n.at zcc_37 dX5_readRowEnd_52 rfl
theorem f_37_53 (l : za_L) (st : List Value) (w : za_W) : za_n 37 (53, l, st, w) = za_x 37 (.getfield 53) 53 l st w := za_n.at zcc_37 dX5_readRowEnd_53 rfl
theorem f_37_56 (l : za_L) (st : List Value) (w : za_W) : za_n 37 (56, l, st, w) = za_x 37 (.getfield 84) 56 l st w := za_n.at zcc_37 dX5_readRowEnd_56 rfl
theorem f_37_59 (l : za_L) (st : List Value) (w : za_W) : za_n 37 (59, l, st, w) = za_go 61 l (.int (8) :: st) w := (za_n.at zcc_37 dX5_readRowEnd_59 rfl).trans (congrArg (fun x => za_go 61 l (.int x :: st) w) (by decide))
theorem f_37_61 (l : za_L) (st : List Value) (w : za_W) : za_n 37 (61, l, st, w) = za_x 37 (.irem) 61 l st w := za_n.at zcc_37 dX5_readRowEnd_61 rfl
theorem f_37_62 (l : za_L) (st : List Value) (w : za_W) : za_n 37 (62, l, st, w) = za_x 37 (.ifCond .eq 26) 62 l st w := za_n.at zcc_37 dX5_readRowEnd_62 rfl
theorem f_37_65 (l : za_L) (st : List Value) (w : za_W) : za_n 37 (65, l, st, w) = za_x 37 (.aload_n 0) 65 l st w := za_n.at zcc_37 dX5_readRowEnd_65 rfl
theorem f_37_66 (l : za_L) (st : List Value) (w : za_W) : za_n 37 (66, l, st, w) = za_x 37 (.getfield 53) 66 l st w := za_n.at zcc_37 dX5_readRowEnd_66 rfl
theorem f_37_69 (l : za_L) (st : List Value) (w : za_W) : za_n 37 (69, l, st, w) = za_x 37 (.invokevirtual 138) 69 l st w := za_n.at zcc_37 dX5_readRowEnd_69 rfl
theorem f_37_72 (l : za_L) (st : List Value) (w : za_W) : za_n 37 (72, l, st, w) = za_x 37 (.ifCond .eq 10) 72 l st w := za_n.at zcc_37 dX5_readRowEnd_72 rfl
theorem f_37_75 (l : za_L) (st : List Value) (w : za_W) : za_n 37 (75, l, st, w) = za_x 37 (.aload_n 0) 75 l st w := za_n.at zcc_37 dX5_readRowEnd_75 rfl
theorem f_37_76 (l : za_L) (st : List Value) (w : za_W) : za_n 37 (76, l, st, w) = za_go 78 l (.int (14) :: st) w := (za_n.at zcc_37 dX5_readRowEnd_76 rfl).trans (congrArg (fun x => za_go 78 l (.int x :: st) w) (by decide))
theorem f_37_78 (l : za_L) (st : List Value) (w : za_W) : za_n 37 (78, l, st, w) = za_x 37 (.invokevirtual 105) 78 l st w := za_n.at zcc_37 dX5_readRowEnd_78 rfl
theorem f_37_81 (l : za_L) (st : List Value) (w : za_W) : za_n 37 (81, l, st, w) = za_x 37 (.ireturn) 81 l st w := za_n.at zcc_37 dX5_readRowEnd_81 rfl
theorem f_37_82 (l : za_L) (st : List Value) (w : za_W) : za_n 37 (82, l, st, w) = za_x 37 (.iinc 4 1) 82 l st w := za_n.at zcc_37 dX5_readRowEnd_82 rfl
theorem f_37_85 (l : za_L) (st : List Value) (w : za_W) : za_n 37 (85, l, st, w) = za_go 45 l st w := (za_n.at zcc_37 dX5_readRowEnd_85 rfl).trans (za_jp.at (by decide))
theorem f_37_88 (l : za_L) (st : List Value) (w : za_W) : za_n 37 (88, l, st, w) = za_go 89 l (.int (1) :: st) w := (za_n.at zcc_37 dX5_readRowEnd_88 rfl).trans (congrArg (fun x => za_go 89 l (.int x :: st) w) (by decide))
theorem f_37_89 (l : za_L) (st : List Value) (w : za_W) : za_n 37 (89, l, st, w) = za_x 37 (.ireturn) 89 l st w := za_n.at zcc_37 dX5_readRowEnd_89 rfl
theorem f_38_0 (l : za_L) (st : List Value) (w : za_W) : za_n 38 (0, l, st, w) = za_x 38 (.aload_n 0) 0 l st w := za_n.at zcc_38 dX5_openBlock_0 rfl
theorem f_38_1 (l : za_L) (st : List Value) (w : za_W) : za_n 38 (1, l, st, w) = za_x 38 (.getfield 40) 1 l st w := za_n.at zcc_38 dX5_openBlock_1 rfl
theorem f_38_4 (l : za_L) (st : List Value) (w : za_W) : za_n 38 (4, l, st, w) = za_x 38 (.getfield 141) 4 l st w := za_n.at zcc_38 dX5_openBlock_4 rfl
theorem f_38_7 (l : za_L) (st : List Value) (w : za_W) : za_n 38 (7, l, st, w) = za_x 38 (.astore_n 2) 7 l st w := za_n.at zcc_38 dX5_openBlock_7 rfl
theorem f_38_8 (l : za_L) (st : List Value) (w : za_W) : za_n 38 (8, l, st, w) = za_x 38 (.aload_n 0) 8 l st w := za_n.at zcc_38 dX5_openBlock_8 rfl
theorem f_38_9 (l : za_L) (st : List Value) (w : za_W) : za_n 38 (9, l, st, w) = za_x 38 (.invokevirtual 145) 9 l st w := za_n.at zcc_38 dX5_openBlock_9 rfl
theorem f_38_12 (l : za_L) (st : List Value) (w : za_W) : za_n 38 (12, l, st, w) = za_x 38 (.ifCond .eq 53) 12 l st w := za_n.at zcc_38 dX5_openBlock_12 rfl
theorem f_38_15 (l : za_L) (st : List Value) (w : za_W) : za_n 38 (15, l, st, w) = za_x 38 (.aload_n 0) 15 l st w := za_n.at zcc_38 dX5_openBlock_15 rfl
theorem f_38_16 (l : za_L) (st : List Value) (w : za_W) : za_n 38 (16, l, st, w) = za_x 38 (.invokevirtual 148) 16 l st w := za_n.at zcc_38 dX5_openBlock_16 rfl
theorem f_38_19 (l : za_L) (st : List Value) (w : za_W) : za_n 38 (19, l, st, w) = za_x 38 (.ifCond .eq 46) 19 l st w := za_n.at zcc_38 dX5_openBlock_19 rfl
theorem f_38_22 (l : za_L) (st : List Value) (w : za_W) : za_n 38 (22, l, st, w) = za_x 38 (.aload_n 0) 22 l st w := za_n.at zcc_38 dX5_openBlock_22 rfl
theorem f_38_23 (l : za_L) (st : List Value) (w : za_W) : za_n 38 (23, l, st, w) = za_x 38 (.aload_n 2) 23 l st w := za_n.at zcc_38 dX5_openBlock_23 rfl
theorem f_38_24 (l : za_L) (st : List Value) (w : za_W) : za_n 38 (24, l, st, w) = za_x 38 (.invokevirtual 151) 24 l st w := za_n.at zcc_38 dX5_openBlock_24 rfl
theorem f_38_27 (l : za_L) (st : List Value) (w : za_W) : za_n 38 (27, l, st, w) = za_x 38 (.ifCond .eq 38) 27 l st w := za_n.at zcc_38 dX5_openBlock_27 rfl
theorem f_38_30 (l : za_L) (st : List Value) (w : za_W) : za_n 38 (30, l, st, w) = za_x 38 (.aload_n 0) 30 l st w := za_n.at zcc_38 dX5_openBlock_30 rfl
theorem f_38_31 (l : za_L) (st : List Value) (w : za_W) : za_n 38 (31, l, st, w) = za_x 38 (.aload_n 2) 31 l st w := za_n.at zcc_38 dX5_openBlock_31 rfl
theorem f_38_32 (l : za_L) (st : List Value) (w : za_W) : za_n 38 (32, l, st, w) = za_x 38 (.invokevirtual 155) 32 l st w := za_n.at zcc_38 dX5_openBlock_32 rfl
theorem f_38_35 (l : za_L) (st : List Value) (w : za_W) : za_n 38 (35, l, st, w) = za_x 38 (.ifCond .eq 30) 35 l st w := za_n.at zcc_38 dX5_openBlock_35 rfl
theorem f_38_38 (l : za_L) (st : List Value) (w : za_W) : za_n 38 (38, l, st, w) = za_x 38 (.aload_n 0) 38 l st w := za_n.at zcc_38 dX5_openBlock_38 rfl
theorem f_38_39 (l : za_L) (st : List Value) (w : za_W) : za_n 38 (39, l, st, w) = za_x 38 (.aload_n 2) 39 l st w := za_n.at zcc_38 dX5_openBlock_39 rfl
theorem f_38_40 (l : za_L) (st : List Value) (w : za_W) : za_n 38 (40, l, st, w) = za_x 38 (.iload_n 1) 40 l st w := za_n.at zcc_38 dX5_openBlock_40 rfl
theorem f_38_41 (l : za_L) (st : List Value) (w : za_W) : za_n 38 (41, l, st, w) = za_x 38 (.invokevirtual 158) 41 l st w := za_n.at zcc_38 dX5_openBlock_41 rfl
theorem f_38_44 (l : za_L) (st : List Value) (w : za_W) : za_n 38 (44, l, st, w) = za_x 38 (.ifCond .eq 21) 44 l st w := za_n.at zcc_38 dX5_openBlock_44 rfl
theorem f_38_47 (l : za_L) (st : List Value) (w : za_W) : za_n 38 (47, l, st, w) = za_x 38 (.aload_n 0) 47 l st w := za_n.at zcc_38 dX5_openBlock_47 rfl
theorem f_38_48 (l : za_L) (st : List Value) (w : za_W) : za_n 38 (48, l, st, w) = za_x 38 (.invokevirtual 162) 48 l st w := za_n.at zcc_38 dX5_openBlock_48 rfl
theorem f_38_51 (l : za_L) (st : List Value) (w : za_W) : za_n 38 (51, l, st, w) = za_x 38 (.ifCond .eq 14) 51 l st w := za_n.at zcc_38 dX5_openBlock_51 rfl
theorem f_38_54 (l : za_L) (st : List Value) (w : za_W) : za_n 38 (54, l, st, w) = za_x 38 (.aload_n 0) 54 l st w := za_n.at zcc_38 dX5_openBlock_54 rfl
theorem f_38_55 (l : za_L) (st : List Value) (w : za_W) : za_n 38 (55, l, st, w) = za_x 38 (.invokevirtual 165) 55 l st w := za_n.at zcc_38 dX5_openBlock_55 rfl
theorem f_38_58 (l : za_L) (st : List Value) (w : za_W) : za_n 38 (58, l, st, w) = za_x 38 (.ifCond .eq 7) 58 l st w := za_n.at zcc_38 dX5_openBlock_58 rfl
theorem f_38_61 (l : za_L) (st : List Value) (w : za_W) : za_n 38 (61, l, st, w) = za_go 62 l (.int (1) :: st) w := (za_n.at zcc_38 dX5_openBlock_61 rfl).trans (congrArg (fun x => za_go 62 l (.int x :: st) w) (by decide))
theorem f_38_62 (l : za_L) (st : List Value) (w : za_W) : za_n 38 (62, l, st, w) = za_go 66 l st w := (za_n.at zcc_38 dX5_openBlock_62 rfl).trans (za_jp.at (by decide))
theorem f_38_65 (l : za_L) (st : List Value) (w : za_W) : za_n 38 (65, l, st, w) = za_go 66 l (.int (0) :: st) w := (za_n.at zcc_38 dX5_openBlock_65 rfl).trans (congrArg (fun x => za_go 66 l (.int x :: st) w) (by decide))
theorem f_38_66 (l : za_L) (st : List Value) (w : za_W) : za_n 38 (66, l, st, w) = za_x 38 (.ireturn) 66 l st w := za_n.at zcc_38 dX5_openBlock_66 rfl
theorem f_39_0 (l : za_L) (st : List Value) (w : za_W) : za_n 39 (0, l, st, w) = za_x 39 (.aload_n 0) 0 l st w := za_n.at zcc_39 dX5_readHead_0 rfl
theorem f_39_1 (l : za_L) (st : List Value) (w : za_W) : za_n 39 (1, l, st, w) = za_x 39 (.getfield 53) 1 l st w := za_n.at zcc_39 dX5_readHead_1 rfl
theorem f_39_4 (l : za_L) (st : List Value) (w : za_W) : za_n 39 (4, l, st, w) = za_go 6 l (.int (32) :: st) w := (za_n.at zcc_39 dX5_readHead_4 rfl).trans (congrArg (fun x => za_go 6 l (.int x :: st) w) (by decide))
theorem f_39_6 (l : za_L) (st : List Value) (w : za_W) : za_n 39 (6, l, st, w) = za_x 39 (.invokevirtual 99) 6 l st w := za_n.at zcc_39 dX5_readHead_6 rfl
theorem f_39_9 (l : za_L) (st : List Value) (w : za_W) : za_n 39 (9, l, st, w) = za_x 39 (.lstore_n 1) 9 l st w := za_n.at zcc_39 dX5_readHead_9 rfl
theorem f_39_10 (l : za_L) (st : List Value) (w : za_W) : za_n 39 (10, l, st, w) = za_x 39 (.lload_n 1) 10 l st w := za_n.at zcc_39 dX5_readHead_10 rfl
theorem f_39_11 (l : za_L) (st : List Value) (w : za_W) : za_n 39 (11, l, st, w) = za_x 39 (.ldc2_w 103) 11 l st w := za_n.at zcc_39 dX5_readHead_11 rfl
theorem f_39_14 (l : za_L) (st : List Value) (w : za_W) : za_n 39 (14, l, st, w) = za_x 39 (.lcmp) 14 l st w := za_n.at zcc_39 dX5_readHead_14 rfl
theorem f_39_15 (l : za_L) (st : List Value) (w : za_W) : za_n 39 (15, l, st, w) = za_x 39 (.ifCond .ne 9) 15 l st w := za_n.at zcc_39 dX5_readHead_15 rfl
theorem f_39_18 (l : za_L) (st : List Value) (w : za_W) : za_n 39 (18, l, st, w) = za_x 39 (.aload_n 0) 18 l st w := za_n.at zcc_39 dX5_readHead_18 rfl
theorem f_39_19 (l : za_L) (st : List Value) (w : za_W) : za_n 39 (19, l, st, w) = za_go 20 l (.int (1) :: st) w := (za_n.at zcc_39 dX5_readHead_19 rfl).trans (congrArg (fun x => za_go 20 l (.int x :: st) w) (by decide))
theorem f_39_20 (l : za_L) (st : List Value) (w : za_W) : za_n 39 (20, l, st, w) = za_x 39 (.invokevirtual 105) 20 l st w := za_n.at zcc_39 dX5_readHead_20 rfl
theorem f_39_23 (l : za_L) (st : List Value) (w : za_W) : za_n 39 (23, l, st, w) = za_x 39 (.ireturn) 23 l st w := za_n.at zcc_39 dX5_readHead_23 rfl
theorem f_39_24 (l : za_L) (st : List Value) (w : za_W) : za_n 39 (24, l, st, w) = za_x 39 (.aload_n 0) 24 l st w := za_n.at zcc_39 dX5_readHead_24 rfl
theorem f_39_25 (l : za_L) (st : List Value) (w : za_W) : za_n 39 (25, l, st, w) = za_x 39 (.getfield 40) 25 l st w := za_n.at zcc_39 dX5_readHead_25 rfl
theorem f_39_28 (l : za_L) (st : List Value) (w : za_W) : za_n 39 (28, l, st, w) = za_x 39 (.lload_n 1) 28 l st w := za_n.at zcc_39 dX5_readHead_28 rfl
theorem f_39_29 (l : za_L) (st : List Value) (w : za_W) : za_n 39 (29, l, st, w) = za_x 39 (.l2i) 29 l st w := za_n.at zcc_39 dX5_readHead_29 rfl
theorem f_39_30 (l : za_L) (st : List Value) (w : za_W) : za_n 39 (30, l, st, w) = za_x 39 (.putfield 122) 30 l st w := za_n.at zcc_39 dX5_readHead_30 rfl
theorem f_39_33 (l : za_L) (st : List Value) (w : za_W) : za_n 39 (33, l, st, w) = za_x 39 (.aload_n 0) 33 l st w := za_n.at zcc_39 dX5_readHead_33 rfl
theorem f_39_34 (l : za_L) (st : List Value) (w : za_W) : za_n 39 (34, l, st, w) = za_x 39 (.getfield 53) 34 l st w := za_n.at zcc_39 dX5_readHead_34 rfl
theorem f_39_37 (l : za_L) (st : List Value) (w : za_W) : za_n 39 (37, l, st, w) = za_x 39 (.invokevirtual 138) 37 l st w := za_n.at zcc_39 dX5_readHead_37 rfl
theorem f_39_40 (l : za_L) (st : List Value) (w : za_W) : za_n 39 (40, l, st, w) = za_x 39 (.istore_n 3) 40 l st w := za_n.at zcc_39 dX5_readHead_40 rfl
theorem f_39_41 (l : za_L) (st : List Value) (w : za_W) : za_n 39 (41, l, st, w) = za_x 39 (.iload_n 3) 41 l st w := za_n.at zcc_39 dX5_readHead_41 rfl
theorem f_39_42 (l : za_L) (st : List Value) (w : za_W) : za_n 39 (42, l, st, w) = za_go 43 l (.int (-1) :: st) w := (za_n.at zcc_39 dX5_readHead_42 rfl).trans (congrArg (fun x => za_go 43 l (.int x :: st) w) (by decide))
theorem f_39_43 (l : za_L) (st : List Value) (w : za_W) : za_n 39 (43, l, st, w) = za_x 39 (.if_icmp .ne 9) 43 l st w := za_n.at zcc_39 dX5_readHead_43 rfl
theorem f_39_46 (l : za_L) (st : List Value) (w : za_W) : za_n 39 (46, l, st, w) = za_x 39 (.aload_n 0) 46 l st w := za_n.at zcc_39 dX5_readHead_46 rfl
theorem f_39_47 (l : za_L) (st : List Value) (w : za_W) : za_n 39 (47, l, st, w) = za_go 48 l (.int (1) :: st) w := (za_n.at zcc_39 dX5_readHead_47 rfl).trans (congrArg (fun x => za_go 48 l (.int x :: st) w) (by decide))
theorem f_39_48 (l : za_L) (st : List Value) (w : za_W) : za_n 39 (48, l, st, w) = za_x 39 (.invokevirtual 105) 48 l st w := za_n.at zcc_39 dX5_readHead_48 rfl
theorem f_39_51 (l : za_L) (st : List Value) (w : za_W) : za_n 39 (51, l, st, w) = za_x 39 (.ireturn) 51 l st w := za_n.at zcc_39 dX5_readHead_51 rfl
theorem f_39_52 (l : za_L) (st : List Value) (w : za_W) : za_n 39 (52, l, st, w) = za_x 39 (.iload_n 3) 52 l st w := za_n.at zcc_39 dX5_readHead_52 rfl
theorem f_39_53 (l : za_L) (st : List Value) (w : za_W) : za_n 39 (53, l, st, w) = za_x 39 (.ifCond .eq 9) 53 l st w := za_n.at zcc_39 dX5_readHead_53 rfl
theorem f_39_56 (l : za_L) (st : List Value) (w : za_W) : za_n 39 (56, l, st, w) = za_x 39 (.aload_n 0) 56 l st w := za_n.at zcc_39 dX5_readHead_56 rfl
theorem f_39_57 (l : za_L) (st : List Value) (w : za_W) : za_n 39 (57, l, st, w) = za_go 58 l (.int (4) :: st) w := (za_n.at zcc_39 dX5_readHead_57 rfl).trans (congrArg (fun x => za_go 58 l (.int x :: st) w) (by decide))
theorem f_39_58 (l : za_L) (st : List Value) (w : za_W) : za_n 39 (58, l, st, w) = za_x 39 (.invokevirtual 105) 58 l st w := za_n.at zcc_39 dX5_readHead_58 rfl
theorem f_39_61 (l : za_L) (st : List Value) (w : za_W) : za_n 39 (61, l, st, w) = za_x 39 (.ireturn) 61 l st w := za_n.at zcc_39 dX5_readHead_61 rfl
theorem f_39_62 (l : za_L) (st : List Value) (w : za_W) : za_n 39 (62, l, st, w) = za_x 39 (.aload_n 0) 62 l st w := za_n.at zcc_39 dX5_readHead_62 rfl
theorem f_39_63 (l : za_L) (st : List Value) (w : za_W) : za_n 39 (63, l, st, w) = za_x 39 (.aload_n 0) 63 l st w := za_n.at zcc_39 dX5_readHead_63 rfl
theorem f_39_64 (l : za_L) (st : List Value) (w : za_W) : za_n 39 (64, l, st, w) = za_x 39 (.getfield 53) 64 l st w := za_n.at zcc_39 dX5_readHead_64 rfl
theorem f_39_67 (l : za_L) (st : List Value) (w : za_W) : za_n 39 (67, l, st, w) = za_go 69 l (.int (24) :: st) w := (za_n.at zcc_39 dX5_readHead_67 rfl).trans (congrArg (fun x => za_go 69 l (.int x :: st) w) (by decide))
theorem f_39_69 (l : za_L) (st : List Value) (w : za_W) : za_n 39 (69, l, st, w) = za_x 39 (.invokevirtual 99) 69 l st w := za_n.at zcc_39 dX5_readHead_69 rfl
theorem f_39_72 (l : za_L) (st : List Value) (w : za_W) : za_n 39 (72, l, st, w) = za_x 39 (.l2i) 72 l st w := za_n.at zcc_39 dX5_readHead_72 rfl
theorem f_39_73 (l : za_L) (st : List Value) (w : za_W) : za_n 39 (73, l, st, w) = za_x 39 (.putfield 168) 73 l st w := za_n.at zcc_39 dX5_readHead_73 rfl
theorem f_39_76 (l : za_L) (st : List Value) (w : za_W) : za_n 39 (76, l, st, w) = za_x 39 (.aload_n 0) 76 l st w := za_n.at zcc_39 dX5_readHead_76 rfl
theorem f_39_77 (l : za_L) (st : List Value) (w : za_W) : za_n 39 (77, l, st, w) = za_x 39 (.getfield 168) 77 l st w := za_n.at zcc_39 dX5_readHead_77 rfl
theorem f_39_80 (l : za_L) (st : List Value) (w : za_W) : za_n 39 (80, l, st, w) = za_go 81 l (.int (-1) :: st) w := (za_n.at zcc_39 dX5_readHead_80 rfl).trans (congrArg (fun x => za_go 81 l (.int x :: st) w) (by decide))
theorem f_39_81 (l : za_L) (st : List Value) (w : za_W) : za_n 39 (81, l, st, w) = za_x 39 (.if_icmp .ne 9) 81 l st w := za_n.at zcc_39 dX5_readHead_81 rfl
theorem f_39_84 (l : za_L) (st : List Value) (w : za_W) : za_n 39 (84, l, st, w) = za_x 39 (.aload_n 0) 84 l st w := za_n.at zcc_39 dX5_readHead_84 rfl
theorem f_39_85 (l : za_L) (st : List Value) (w : za_W) : za_n 39 (85, l, st, w) = za_go 86 l (.int (1) :: st) w := (za_n.at zcc_39 dX5_readHead_85 rfl).trans (congrArg (fun x => za_go 86 l (.int x :: st) w) (by decide))
theorem f_39_86 (l : za_L) (st : List Value) (w : za_W) : za_n 39 (86, l, st, w) = za_x 39 (.invokevirtual 105) 86 l st w := za_n.at zcc_39 dX5_readHead_86 rfl
theorem f_39_89 (l : za_L) (st : List Value) (w : za_W) : za_n 39 (89, l, st, w) = za_x 39 (.ireturn) 89 l st w := za_n.at zcc_39 dX5_readHead_89 rfl
theorem f_39_90 (l : za_L) (st : List Value) (w : za_W) : za_n 39 (90, l, st, w) = za_x 39 (.aload_n 0) 90 l st w := za_n.at zcc_39 dX5_readHead_90 rfl
theorem f_39_91 (l : za_L) (st : List Value) (w : za_W) : za_n 39 (91, l, st, w) = za_x 39 (.getfield 40) 91 l st w := za_n.at zcc_39 dX5_readHead_91 rfl
theorem f_39_94 (l : za_L) (st : List Value) (w : za_W) : za_n 39 (94, l, st, w) = za_go 95 l (.int (3) :: st) w := (za_n.at zcc_39 dX5_readHead_94 rfl).trans (congrArg (fun x => za_go 95 l (.int x :: st) w) (by decide))
theorem f_39_95 (l : za_L) (st : List Value) (w : za_W) : za_n 39 (95, l, st, w) = za_x 39 (.aload_n 0) 95 l st w := za_n.at zcc_39 dX5_readHead_95 rfl
theorem f_39_96 (l : za_L) (st : List Value) (w : za_W) : za_n 39 (96, l, st, w) = za_x 39 (.getfield 168) 96 l st w := za_n.at zcc_39 dX5_readHead_96 rfl
theorem f_39_99 (l : za_L) (st : List Value) (w : za_W) : za_n 39 (99, l, st, w) = za_x 39 (.invokevirtual 115) 99 l st w := za_n.at zcc_39 dX5_readHead_99 rfl
theorem f_39_102 (l : za_L) (st : List Value) (w : za_W) : za_n 39 (102, l, st, w) = za_go 103 l (.int (1) :: st) w := (za_n.at zcc_39 dX5_readHead_102 rfl).trans (congrArg (fun x => za_go 103 l (.int x :: st) w) (by decide))
theorem f_39_103 (l : za_L) (st : List Value) (w : za_W) : za_n 39 (103, l, st, w) = za_x 39 (.ireturn) 103 l st w := za_n.at zcc_39 dX5_readHead_103 rfl
theorem f_40_0 (l : za_L) (st : List Value) (w : za_W) : za_n 40 (0, l, st, w) = za_x 40 (.aload_n 0) 0 l st w := za_n.at zcc_40 dX5_readMap_0 rfl
theorem f_40_1 (l : za_L) (st : List Value) (w : za_W) : za_n 40 (1, l, st, w) = za_x 40 (.getfield 53) 1 l st w := za_n.at zcc_40 dX5_readMap_1 rfl
theorem f_40_4 (l : za_L) (st : List Value) (w : za_W) : za_n 40 (4, l, st, w) = za_go 6 l (.int (16) :: st) w := (za_n.at zcc_40 dX5_readMap_4 rfl).trans (congrArg (fun x => za_go 6 l (.int x :: st) w) (by decide))
theorem f_40_6 (l : za_L) (st : List Value) (w : za_W) : za_n 40 (6, l, st, w) = za_x 40 (.invokevirtual 99) 6 l st w := za_n.at zcc_40 dX5_readMap_6 rfl
theorem f_40_9 (l : za_L) (st : List Value) (w : za_W) : za_n 40 (9, l, st, w) = za_x 40 (.l2i) 9 l st w := za_n.at zcc_40 dX5_readMap_9 rfl
theorem f_40_10 (l : za_L) (st : List Value) (w : za_W) : za_n 40 (10, l, st, w) = za_x 40 (.istore_n 1) 10 l st w := za_n.at zcc_40 dX5_readMap_10 rfl
theorem f_40_11 (l : za_L) (st : List Value) (w : za_W) : za_n 40 (11, l, st, w) = za_x 40 (.iload_n 1) 11 l st w := za_n.at zcc_40 dX5_readMap_11 rfl
theorem f_40_12 (l : za_L) (st : List Value) (w : za_W) : za_n 40 (12, l, st, w) = za_go 13 l (.int (-1) :: st) w := (za_n.at zcc_40 dX5_readMap_12 rfl).trans (congrArg (fun x => za_go 13 l (.int x :: st) w) (by decide))
theorem f_40_13 (l : za_L) (st : List Value) (w : za_W) : za_n 40 (13, l, st, w) = za_x 40 (.if_icmp .ne 9) 13 l st w := za_n.at zcc_40 dX5_readMap_13 rfl
theorem f_40_16 (l : za_L) (st : List Value) (w : za_W) : za_n 40 (16, l, st, w) = za_x 40 (.aload_n 0) 16 l st w := za_n.at zcc_40 dX5_readMap_16 rfl
theorem f_40_17 (l : za_L) (st : List Value) (w : za_W) : za_n 40 (17, l, st, w) = za_go 18 l (.int (1) :: st) w := (za_n.at zcc_40 dX5_readMap_17 rfl).trans (congrArg (fun x => za_go 18 l (.int x :: st) w) (by decide))
theorem f_40_18 (l : za_L) (st : List Value) (w : za_W) : za_n 40 (18, l, st, w) = za_x 40 (.invokevirtual 105) 18 l st w := za_n.at zcc_40 dX5_readMap_18 rfl
theorem f_40_21 (l : za_L) (st : List Value) (w : za_W) : za_n 40 (21, l, st, w) = za_x 40 (.ireturn) 21 l st w := za_n.at zcc_40 dX5_readMap_21 rfl
theorem f_40_22 (l : za_L) (st : List Value) (w : za_W) : za_n 40 (22, l, st, w) = za_x 40 (.aload_n 0) 22 l st w := za_n.at zcc_40 dX5_readMap_22 rfl
theorem f_40_23 (l : za_L) (st : List Value) (w : za_W) : za_n 40 (23, l, st, w) = za_x 40 (.getfield 14) 23 l st w := za_n.at zcc_40 dX5_readMap_23 rfl
theorem f_40_26 (l : za_L) (st : List Value) (w : za_W) : za_n 40 (26, l, st, w) = za_x 40 (.invokevirtual 171) 26 l st w := za_n.at zcc_40 dX5_readMap_26 rfl
theorem f_40_29 (l : za_L) (st : List Value) (w : za_W) : za_n 40 (29, l, st, w) = za_go 30 l (.int (0) :: st) w := (za_n.at zcc_40 dX5_readMap_29 rfl).trans (congrArg (fun x => za_go 30 l (.int x :: st) w) (by decide))
theorem f_40_30 (l : za_L) (st : List Value) (w : za_W) : za_n 40 (30, l, st, w) = za_x 40 (.istore_n 2) 30 l st w := za_n.at zcc_40 dX5_readMap_30 rfl
theorem f_40_31 (l : za_L) (st : List Value) (w : za_W) : za_n 40 (31, l, st, w) = za_x 40 (.iload_n 2) 31 l st w := za_n.at zcc_40 dX5_readMap_31 rfl
theorem f_40_32 (l : za_L) (st : List Value) (w : za_W) : za_n 40 (32, l, st, w) = za_go 34 l (.int (16) :: st) w := (za_n.at zcc_40 dX5_readMap_32 rfl).trans (congrArg (fun x => za_go 34 l (.int x :: st) w) (by decide))
theorem f_40_34 (l : za_L) (st : List Value) (w : za_W) : za_n 40 (34, l, st, w) = za_x 40 (.if_icmp .ge 88) 34 l st w := za_n.at zcc_40 dX5_readMap_34 rfl
theorem f_40_37 (l : za_L) (st : List Value) (w : za_W) : za_n 40 (37, l, st, w) = za_x 40 (.iload_n 1) 37 l st w := za_n.at zcc_40 dX5_readMap_37 rfl
theorem f_40_38 (l : za_L) (st : List Value) (w : za_W) : za_n 40 (38, l, st, w) = za_go 40 l (.int (15) :: st) w := (za_n.at zcc_40 dX5_readMap_38 rfl).trans (congrArg (fun x => za_go 40 l (.int x :: st) w) (by decide))
theorem f_40_40 (l : za_L) (st : List Value) (w : za_W) : za_n 40 (40, l, st, w) = za_x 40 (.iload_n 2) 40 l st w := za_n.at zcc_40 dX5_readMap_40 rfl
theorem f_40_41 (l : za_L) (st : List Value) (w : za_W) : za_n 40 (41, l, st, w) = za_x 40 (.isub) 41 l st w := za_n.at zcc_40 dX5_readMap_41 rfl
theorem f_40_42 (l : za_L) (st : List Value) (w : za_W) : za_n 40 (42, l, st, w) = za_x 40 (.ishr) 42 l st w := za_n.at zcc_40 dX5_readMap_42 rfl
theorem f_40_43 (l : za_L) (st : List Value) (w : za_W) : za_n 40 (43, l, st, w) = za_go 44 l (.int (1) :: st) w := (za_n.at zcc_40 dX5_readMap_43 rfl).trans (congrArg (fun x => za_go 44 l (.int x :: st) w) (by decide))
theorem f_40_44 (l : za_L) (st : List Value) (w : za_W) : za_n 40 (44, l, st, w) = za_x 40 (.iand) 44 l st w := za_n.at zcc_40 dX5_readMap_44 rfl
theorem f_40_45 (l : za_L) (st : List Value) (w : za_W) : za_n 40 (45, l, st, w) = za_x 40 (.ifCond .ne 6) 45 l st w := za_n.at zcc_40 dX5_readMap_45 rfl
theorem f_40_48 (l : za_L) (st : List Value) (w : za_W) : za_n 40 (48, l, st, w) = za_go 116 l st w := (za_n.at zcc_40 dX5_readMap_48 rfl).trans (za_jp.at (by decide))
theorem f_40_51 (l : za_L) (st : List Value) (w : za_W) : za_n 40 (51, l, st, w) = za_x 40 (.aload_n 0) 51 l st w := za_n.at zcc_40 dX5_readMap_51 rfl
theorem f_40_52 (l : za_L) (st : List Value) (w : za_W) : za_n 40 (52, l, st, w) = za_x 40 (.getfield 53) 52 l st w := za_n.at zcc_40 dX5_readMap_52 rfl
theorem f_40_55 (l : za_L) (st : List Value) (w : za_W) : za_n 40 (55, l, st, w) = za_go 57 l (.int (16) :: st) w := (za_n.at zcc_40 dX5_readMap_55 rfl).trans (congrArg (fun x => za_go 57 l (.int x :: st) w) (by decide))
theorem f_40_57 (l : za_L) (st : List Value) (w : za_W) : za_n 40 (57, l, st, w) = za_x 40 (.invokevirtual 99) 57 l st w := za_n.at zcc_40 dX5_readMap_57 rfl
theorem f_40_60 (l : za_L) (st : List Value) (w : za_W) : za_n 40 (60, l, st, w) = za_x 40 (.l2i) 60 l st w := za_n.at zcc_40 dX5_readMap_60 rfl
theorem f_40_61 (l : za_L) (st : List Value) (w : za_W) : za_n 40 (61, l, st, w) = za_x 40 (.istore_n 3) 61 l st w := za_n.at zcc_40 dX5_readMap_61 rfl
theorem f_40_62 (l : za_L) (st : List Value) (w : za_W) : za_n 40 (62, l, st, w) = za_x 40 (.iload_n 3) 62 l st w := za_n.at zcc_40 dX5_readMap_62 rfl
theorem f_40_63 (l : za_L) (st : List Value) (w : za_W) : za_n 40 (63, l, st, w) = za_go 64 l (.int (-1) :: st) w := (za_n.at zcc_40 dX5_readMap_63 rfl).trans (congrArg (fun x => za_go 64 l (.int x :: st) w) (by decide))
theorem f_40_64 (l : za_L) (st : List Value) (w : za_W) : za_n 40 (64, l, st, w) = za_x 40 (.if_icmp .ne 9) 64 l st w := za_n.at zcc_40 dX5_readMap_64 rfl
theorem f_40_67 (l : za_L) (st : List Value) (w : za_W) : za_n 40 (67, l, st, w) = za_x 40 (.aload_n 0) 67 l st w := za_n.at zcc_40 dX5_readMap_67 rfl
theorem f_40_68 (l : za_L) (st : List Value) (w : za_W) : za_n 40 (68, l, st, w) = za_go 69 l (.int (1) :: st) w := (za_n.at zcc_40 dX5_readMap_68 rfl).trans (congrArg (fun x => za_go 69 l (.int x :: st) w) (by decide))
theorem f_40_69 (l : za_L) (st : List Value) (w : za_W) : za_n 40 (69, l, st, w) = za_x 40 (.invokevirtual 105) 69 l st w := za_n.at zcc_40 dX5_readMap_69 rfl
theorem f_40_72 (l : za_L) (st : List Value) (w : za_W) : za_n 40 (72, l, st, w) = za_x 40 (.ireturn) 72 l st w := za_n.at zcc_40 dX5_readMap_72 rfl
theorem f_40_73 (l : za_L) (st : List Value) (w : za_W) : za_n 40 (73, l, st, w) = za_go 74 l (.int (0) :: st) w := (za_n.at zcc_40 dX5_readMap_73 rfl).trans (congrArg (fun x => za_go 74 l (.int x :: st) w) (by decide))
theorem f_40_74 (l : za_L) (st : List Value) (w : za_W) : za_n 40 (74, l, st, w) = za_x 40 (.istore 4) 74 l st w := za_n.at zcc_40 dX5_readMap_74 rfl
theorem f_40_76 (l : za_L) (st : List Value) (w : za_W) : za_n 40 (76, l, st, w) = za_x 40 (.iload 4) 76 l st w := za_n.at zcc_40 dX5_readMap_76 rfl
theorem f_40_78 (l : za_L) (st : List Value) (w : za_W) : za_n 40 (78, l, st, w) = za_go 80 l (.int (16) :: st) w := (za_n.at zcc_40 dX5_readMap_78 rfl).trans (congrArg (fun x => za_go 80 l (.int x :: st) w) (by decide))
theorem f_40_80 (l : za_L) (st : List Value) (w : za_W) : za_n 40 (80, l, st, w) = za_x 40 (.if_icmp .ge 36) 80 l st w := za_n.at zcc_40 dX5_readMap_80 rfl
theorem f_40_83 (l : za_L) (st : List Value) (w : za_W) : za_n 40 (83, l, st, w) = za_x 40 (.iload_n 3) 83 l st w := za_n.at zcc_40 dX5_readMap_83 rfl
theorem f_40_84 (l : za_L) (st : List Value) (w : za_W) : za_n 40 (84, l, st, w) = za_go 86 l (.int (15) :: st) w := (za_n.at zcc_40 dX5_readMap_84 rfl).trans (congrArg (fun x => za_go 86 l (.int x :: st) w) (by decide))
theorem f_40_86 (l : za_L) (st : List Value) (w : za_W) : za_n 40 (86, l, st, w) = za_x 40 (.iload 4) 86 l st w := za_n.at zcc_40 dX5_readMap_86 rfl
theorem f_40_88 (l : za_L) (st : List Value) (w : za_W) : za_n 40 (88, l, st, w) = za_x 40 (.isub) 88 l st w := za_n.at zcc_40 dX5_readMap_88 rfl
theorem f_40_89 (l : za_L) (st : List Value) (w : za_W) : za_n 40 (89, l, st, w) = za_x 40 (.ishr) 89 l st w := za_n.at zcc_40 dX5_readMap_89 rfl
theorem f_40_90 (l : za_L) (st : List Value) (w : za_W) : za_n 40 (90, l, st, w) = za_go 91 l (.int (1) :: st) w := (za_n.at zcc_40 dX5_readMap_90 rfl).trans (congrArg (fun x => za_go 91 l (.int x :: st) w) (by decide))
theorem f_40_91 (l : za_L) (st : List Value) (w : za_W) : za_n 40 (91, l, st, w) = za_x 40 (.iand) 91 l st w := za_n.at zcc_40 dX5_readMap_91 rfl
theorem f_40_92 (l : za_L) (st : List Value) (w : za_W) : za_n 40 (92, l, st, w) = za_go 93 l (.int (1) :: st) w := (za_n.at zcc_40 dX5_readMap_92 rfl).trans (congrArg (fun x => za_go 93 l (.int x :: st) w) (by decide))
theorem f_40_93 (l : za_L) (st : List Value) (w : za_W) : za_n 40 (93, l, st, w) = za_x 40 (.if_icmp .ne 17) 93 l st w := za_n.at zcc_40 dX5_readMap_93 rfl
theorem f_40_96 (l : za_L) (st : List Value) (w : za_W) : za_n 40 (96, l, st, w) = za_x 40 (.aload_n 0) 96 l st w := za_n.at zcc_40 dX5_readMap_96 rfl
theorem f_40_97 (l : za_L) (st : List Value) (w : za_W) : za_n 40 (97, l, st, w) = za_x 40 (.getfield 14) 97 l st w := za_n.at zcc_40 dX5_readMap_97 rfl
theorem f_40_100 (l : za_L) (st : List Value) (w : za_W) : za_n 40 (100, l, st, w) = za_go 102 l (.int (16) :: st) w := (za_n.at zcc_40 dX5_readMap_100 rfl).trans (congrArg (fun x => za_go 102 l (.int x :: st) w) (by decide))
theorem f_40_102 (l : za_L) (st : List Value) (w : za_W) : za_n 40 (102, l, st, w) = za_x 40 (.iload_n 2) 102 l st w := za_n.at zcc_40 dX5_readMap_102 rfl
theorem f_40_103 (l : za_L) (st : List Value) (w : za_W) : za_n 40 (103, l, st, w) = za_x 40 (.imul) 103 l st w := za_n.at zcc_40 dX5_readMap_103 rfl
theorem f_40_104 (l : za_L) (st : List Value) (w : za_W) : za_n 40 (104, l, st, w) = za_x 40 (.iload 4) 104 l st w := za_n.at zcc_40 dX5_readMap_104 rfl
theorem f_40_106 (l : za_L) (st : List Value) (w : za_W) : za_n 40 (106, l, st, w) = za_x 40 (.iadd) 106 l st w := za_n.at zcc_40 dX5_readMap_106 rfl
theorem f_40_107 (l : za_L) (st : List Value) (w : za_W) : za_n 40 (107, l, st, w) = za_x 40 (.invokevirtual 174) 107 l st w := za_n.at zcc_40 dX5_readMap_107 rfl
theorem f_40_110 (l : za_L) (st : List Value) (w : za_W) : za_n 40 (110, l, st, w) = za_x 40 (.iinc 4 1) 110 l st w := za_n.at zcc_40 dX5_readMap_110 rfl
theorem f_40_113 (l : za_L) (st : List Value) (w : za_W) : za_n 40 (113, l, st, w) = za_go 76 l st w := (za_n.at zcc_40 dX5_readMap_113 rfl).trans (za_jp.at (by decide))
theorem f_40_116 (l : za_L) (st : List Value) (w : za_W) : za_n 40 (116, l, st, w) = za_x 40 (.iinc 2 1) 116 l st w := za_n.at zcc_40 dX5_readMap_116 rfl
theorem f_40_119 (l : za_L) (st : List Value) (w : za_W) : za_n 40 (119, l, st, w) = za_go 31 l st w := (za_n.at zcc_40 dX5_readMap_119 rfl).trans (za_jp.at (by decide))
theorem f_40_122 (l : za_L) (st : List Value) (w : za_W) : za_n 40 (122, l, st, w) = za_x 40 (.aload_n 0) 122 l st w := za_n.at zcc_40 dX5_readMap_122 rfl
theorem f_40_123 (l : za_L) (st : List Value) (w : za_W) : za_n 40 (123, l, st, w) = za_x 40 (.getfield 40) 123 l st w := za_n.at zcc_40 dX5_readMap_123 rfl
theorem f_40_126 (l : za_L) (st : List Value) (w : za_W) : za_n 40 (126, l, st, w) = za_go 127 l (.int (4) :: st) w := (za_n.at zcc_40 dX5_readMap_126 rfl).trans (congrArg (fun x => za_go 127 l (.int x :: st) w) (by decide))
theorem f_40_127 (l : za_L) (st : List Value) (w : za_W) : za_n 40 (127, l, st, w) = za_x 40 (.aload_n 0) 127 l st w := za_n.at zcc_40 dX5_readMap_127 rfl
theorem f_40_128 (l : za_L) (st : List Value) (w : za_W) : za_n 40 (128, l, st, w) = za_x 40 (.getfield 14) 128 l st w := za_n.at zcc_40 dX5_readMap_128 rfl
theorem f_40_131 (l : za_L) (st : List Value) (w : za_W) : za_n 40 (131, l, st, w) = za_x 40 (.getfield 177) 131 l st w := za_n.at zcc_40 dX5_readMap_131 rfl
theorem f_40_134 (l : za_L) (st : List Value) (w : za_W) : za_n 40 (134, l, st, w) = za_x 40 (.invokevirtual 115) 134 l st w := za_n.at zcc_40 dX5_readMap_134 rfl
theorem f_40_137 (l : za_L) (st : List Value) (w : za_W) : za_n 40 (137, l, st, w) = za_x 40 (.aload_n 0) 137 l st w := za_n.at zcc_40 dX5_readMap_137 rfl
theorem f_40_138 (l : za_L) (st : List Value) (w : za_W) : za_n 40 (138, l, st, w) = za_x 40 (.getfield 14) 138 l st w := za_n.at zcc_40 dX5_readMap_138 rfl
theorem f_40_141 (l : za_L) (st : List Value) (w : za_W) : za_n 40 (141, l, st, w) = za_x 40 (.getfield 177) 141 l st w := za_n.at zcc_40 dX5_readMap_141 rfl
theorem f_40_144 (l : za_L) (st : List Value) (w : za_W) : za_n 40 (144, l, st, w) = za_x 40 (.ifCond .gt 11) 144 l st w := za_n.at zcc_40 dX5_readMap_144 rfl
theorem f_40_147 (l : za_L) (st : List Value) (w : za_W) : za_n 40 (147, l, st, w) = za_x 40 (.aload_n 0) 147 l st w := za_n.at zcc_40 dX5_readMap_147 rfl
theorem f_40_148 (l : za_L) (st : List Value) (w : za_W) : za_n 40 (148, l, st, w) = za_go 149 l (.int (5) :: st) w := (za_n.at zcc_40 dX5_readMap_148 rfl).trans (congrArg (fun x => za_go 149 l (.int x :: st) w) (by decide))
theorem f_40_149 (l : za_L) (st : List Value) (w : za_W) : za_n 40 (149, l, st, w) = za_x 40 (.invokevirtual 105) 149 l st w := za_n.at zcc_40 dX5_readMap_149 rfl
theorem f_40_152 (l : za_L) (st : List Value) (w : za_W) : za_n 40 (152, l, st, w) = za_x 40 (.ifCond .eq 7) 152 l st w := za_n.at zcc_40 dX5_readMap_152 rfl
theorem f_40_155 (l : za_L) (st : List Value) (w : za_W) : za_n 40 (155, l, st, w) = za_go 156 l (.int (1) :: st) w := (za_n.at zcc_40 dX5_readMap_155 rfl).trans (congrArg (fun x => za_go 156 l (.int x :: st) w) (by decide))
theorem f_40_156 (l : za_L) (st : List Value) (w : za_W) : za_n 40 (156, l, st, w) = za_go 160 l st w := (za_n.at zcc_40 dX5_readMap_156 rfl).trans (za_jp.at (by decide))
theorem f_40_159 (l : za_L) (st : List Value) (w : za_W) : za_n 40 (159, l, st, w) = za_go 160 l (.int (0) :: st) w := (za_n.at zcc_40 dX5_readMap_159 rfl).trans (congrArg (fun x => za_go 160 l (.int x :: st) w) (by decide))
theorem f_40_160 (l : za_L) (st : List Value) (w : za_W) : za_n 40 (160, l, st, w) = za_x 40 (.ireturn) 160 l st w := za_n.at zcc_40 dX5_readMap_160 rfl
theorem f_41_0 (l : za_L) (st : List Value) (w : za_W) : za_n 41 (0, l, st, w) = za_x 41 (.aload_n 1) 0 l st w := za_n.at zcc_41 dX5_readChoices_0 rfl
theorem f_41_1 (l : za_L) (st : List Value) (w : za_W) : za_n 41 (1, l, st, w) = za_x 41 (.aload_n 0) 1 l st w := za_n.at zcc_41 dX5_readChoices_1 rfl
theorem f_41_2 (l : za_L) (st : List Value) (w : za_W) : za_n 41 (2, l, st, w) = za_x 41 (.getfield 14) 2 l st w := za_n.at zcc_41 dX5_readChoices_2 rfl
theorem f_41_5 (l : za_L) (st : List Value) (w : za_W) : za_n 41 (5, l, st, w) = za_x 41 (.getfield 177) 5 l st w := za_n.at zcc_41 dX5_readChoices_5 rfl
theorem f_41_8 (l : za_L) (st : List Value) (w : za_W) : za_n 41 (8, l, st, w) = za_go 9 l (.int (2) :: st) w := (za_n.at zcc_41 dX5_readChoices_8 rfl).trans (congrArg (fun x => za_go 9 l (.int x :: st) w) (by decide))
theorem f_41_9 (l : za_L) (st : List Value) (w : za_W) : za_n 41 (9, l, st, w) = za_x 41 (.iadd) 9 l st w := za_n.at zcc_41 dX5_readChoices_9 rfl
theorem f_41_10 (l : za_L) (st : List Value) (w : za_W) : za_n 41 (10, l, st, w) = za_x 41 (.putfield 180) 10 l st w := za_n.at zcc_41 dX5_readChoices_10 rfl
theorem f_41_13 (l : za_L) (st : List Value) (w : za_W) : za_n 41 (13, l, st, w) = za_x 41 (.aload_n 1) 13 l st w := za_n.at zcc_41 dX5_readChoices_13 rfl
theorem f_41_14 (l : za_L) (st : List Value) (w : za_W) : za_n 41 (14, l, st, w) = za_go 15 l (.int (0) :: st) w := (za_n.at zcc_41 dX5_readChoices_14 rfl).trans (congrArg (fun x => za_go 15 l (.int x :: st) w) (by decide))
theorem f_41_15 (l : za_L) (st : List Value) (w : za_W) : za_n 41 (15, l, st, w) = za_x 41 (.putfield 185) 15 l st w := za_n.at zcc_41 dX5_readChoices_15 rfl
theorem f_41_18 (l : za_L) (st : List Value) (w : za_W) : za_n 41 (18, l, st, w) = za_x 41 (.aload_n 0) 18 l st w := za_n.at zcc_41 dX5_readChoices_18 rfl
theorem f_41_19 (l : za_L) (st : List Value) (w : za_W) : za_n 41 (19, l, st, w) = za_x 41 (.getfield 53) 19 l st w := za_n.at zcc_41 dX5_readChoices_19 rfl
theorem f_41_22 (l : za_L) (st : List Value) (w : za_W) : za_n 41 (22, l, st, w) = za_go 23 l (.int (3) :: st) w := (za_n.at zcc_41 dX5_readChoices_22 rfl).trans (congrArg (fun x => za_go 23 l (.int x :: st) w) (by decide))
theorem f_41_23 (l : za_L) (st : List Value) (w : za_W) : za_n 41 (23, l, st, w) = za_x 41 (.invokevirtual 99) 23 l st w := za_n.at zcc_41 dX5_readChoices_23 rfl
theorem f_41_26 (l : za_L) (st : List Value) (w : za_W) : za_n 41 (26, l, st, w) = za_x 41 (.l2i) 26 l st w := za_n.at zcc_41 dX5_readChoices_26 rfl
theorem f_41_27 (l : za_L) (st : List Value) (w : za_W) : za_n 41 (27, l, st, w) = za_x 41 (.istore_n 2) 27 l st w := za_n.at zcc_41 dX5_readChoices_27 rfl
theorem f_41_28 (l : za_L) (st : List Value) (w : za_W) : za_n 41 (28, l, st, w) = za_x 41 (.iload_n 2) 28 l st w := za_n.at zcc_41 dX5_readChoices_28 rfl
theorem f_41_29 (l : za_L) (st : List Value) (w : za_W) : za_n 41 (29, l, st, w) = za_go 30 l (.int (-1) :: st) w := (za_n.at zcc_41 dX5_readChoices_29 rfl).trans (congrArg (fun x => za_go 30 l (.int x :: st) w) (by decide))
theorem f_41_30 (l : za_L) (st : List Value) (w : za_W) : za_n 41 (30, l, st, w) = za_x 41 (.if_icmp .ne 9) 30 l st w := za_n.at zcc_41 dX5_readChoices_30 rfl
theorem f_41_33 (l : za_L) (st : List Value) (w : za_W) : za_n 41 (33, l, st, w) = za_x 41 (.aload_n 0) 33 l st w := za_n.at zcc_41 dX5_readChoices_33 rfl
theorem f_41_34 (l : za_L) (st : List Value) (w : za_W) : za_n 41 (34, l, st, w) = za_go 35 l (.int (1) :: st) w := (za_n.at zcc_41 dX5_readChoices_34 rfl).trans (congrArg (fun x => za_go 35 l (.int x :: st) w) (by decide))
theorem f_41_35 (l : za_L) (st : List Value) (w : za_W) : za_n 41 (35, l, st, w) = za_x 41 (.invokevirtual 105) 35 l st w := za_n.at zcc_41 dX5_readChoices_35 rfl
theorem f_41_38 (l : za_L) (st : List Value) (w : za_W) : za_n 41 (38, l, st, w) = za_x 41 (.ireturn) 38 l st w := za_n.at zcc_41 dX5_readChoices_38 rfl
theorem f_41_39 (l : za_L) (st : List Value) (w : za_W) : za_n 41 (39, l, st, w) = za_x 41 (.iload_n 2) 39 l st w := za_n.at zcc_41 dX5_readChoices_39 rfl
theorem f_41_40 (l : za_L) (st : List Value) (w : za_W) : za_n 41 (40, l, st, w) = za_go 41 l (.int (2) :: st) w := (za_n.at zcc_41 dX5_readChoices_40 rfl).trans (congrArg (fun x => za_go 41 l (.int x :: st) w) (by decide))
theorem f_41_41 (l : za_L) (st : List Value) (w : za_W) : za_n 41 (41, l, st, w) = za_x 41 (.if_icmp .lt 9) 41 l st w := za_n.at zcc_41 dX5_readChoices_41 rfl
theorem f_41_44 (l : za_L) (st : List Value) (w : za_W) : za_n 41 (44, l, st, w) = za_x 41 (.iload_n 2) 44 l st w := za_n.at zcc_41 dX5_readChoices_44 rfl
theorem f_41_45 (l : za_L) (st : List Value) (w : za_W) : za_n 41 (45, l, st, w) = za_go 47 l (.int (6) :: st) w := (za_n.at zcc_41 dX5_readChoices_45 rfl).trans (congrArg (fun x => za_go 47 l (.int x :: st) w) (by decide))
theorem f_41_47 (l : za_L) (st : List Value) (w : za_W) : za_n 41 (47, l, st, w) = za_x 41 (.if_icmp .le 10) 47 l st w := za_n.at zcc_41 dX5_readChoices_47 rfl
theorem f_41_50 (l : za_L) (st : List Value) (w : za_W) : za_n 41 (50, l, st, w) = za_x 41 (.aload_n 0) 50 l st w := za_n.at zcc_41 dX5_readChoices_50 rfl
theorem f_41_51 (l : za_L) (st : List Value) (w : za_W) : za_n 41 (51, l, st, w) = za_go 53 l (.int (6) :: st) w := (za_n.at zcc_41 dX5_readChoices_51 rfl).trans (congrArg (fun x => za_go 53 l (.int x :: st) w) (by decide))
theorem f_41_53 (l : za_L) (st : List Value) (w : za_W) : za_n 41 (53, l, st, w) = za_x 41 (.invokevirtual 105) 53 l st w := za_n.at zcc_41 dX5_readChoices_53 rfl
theorem f_41_56 (l : za_L) (st : List Value) (w : za_W) : za_n 41 (56, l, st, w) = za_x 41 (.ireturn) 56 l st w := za_n.at zcc_41 dX5_readChoices_56 rfl
theorem f_41_57 (l : za_L) (st : List Value) (w : za_W) : za_n 41 (57, l, st, w) = za_x 41 (.aload_n 0) 57 l st w := za_n.at zcc_41 dX5_readChoices_57 rfl
theorem f_41_58 (l : za_L) (st : List Value) (w : za_W) : za_n 41 (58, l, st, w) = za_x 41 (.getfield 53) 58 l st w := za_n.at zcc_41 dX5_readChoices_58 rfl
theorem f_41_61 (l : za_L) (st : List Value) (w : za_W) : za_n 41 (61, l, st, w) = za_go 63 l (.int (15) :: st) w := (za_n.at zcc_41 dX5_readChoices_61 rfl).trans (congrArg (fun x => za_go 63 l (.int x :: st) w) (by decide))
theorem f_41_63 (l : za_L) (st : List Value) (w : za_W) : za_n 41 (63, l, st, w) = za_x 41 (.invokevirtual 99) 63 l st w := za_n.at zcc_41 dX5_readChoices_63 rfl
theorem f_41_66 (l : za_L) (st : List Value) (w : za_W) : za_n 41 (66, l, st, w) = za_x 41 (.l2i) 66 l st w := za_n.at zcc_41 dX5_readChoices_66 rfl
theorem f_41_67 (l : za_L) (st : List Value) (w : za_W) : za_n 41 (67, l, st, w) = za_x 41 (.istore_n 3) 67 l st w := za_n.at zcc_41 dX5_readChoices_67 rfl
theorem f_41_68 (l : za_L) (st : List Value) (w : za_W) : za_n 41 (68, l, st, w) = za_x 41 (.iload_n 3) 68 l st w := za_n.at zcc_41 dX5_readChoices_68 rfl
theorem f_41_69 (l : za_L) (st : List Value) (w : za_W) : za_n 41 (69, l, st, w) = za_go 70 l (.int (-1) :: st) w := (za_n.at zcc_41 dX5_readChoices_69 rfl).trans (congrArg (fun x => za_go 70 l (.int x :: st) w) (by decide))
theorem f_41_70 (l : za_L) (st : List Value) (w : za_W) : za_n 41 (70, l, st, w) = za_x 41 (.if_icmp .ne 9) 70 l st w := za_n.at zcc_41 dX5_readChoices_70 rfl
theorem f_41_73 (l : za_L) (st : List Value) (w : za_W) : za_n 41 (73, l, st, w) = za_x 41 (.aload_n 0) 73 l st w := za_n.at zcc_41 dX5_readChoices_73 rfl
theorem f_41_74 (l : za_L) (st : List Value) (w : za_W) : za_n 41 (74, l, st, w) = za_go 75 l (.int (1) :: st) w := (za_n.at zcc_41 dX5_readChoices_74 rfl).trans (congrArg (fun x => za_go 75 l (.int x :: st) w) (by decide))
theorem f_41_75 (l : za_L) (st : List Value) (w : za_W) : za_n 41 (75, l, st, w) = za_x 41 (.invokevirtual 105) 75 l st w := za_n.at zcc_41 dX5_readChoices_75 rfl
theorem f_41_78 (l : za_L) (st : List Value) (w : za_W) : za_n 41 (78, l, st, w) = za_x 41 (.ireturn) 78 l st w := za_n.at zcc_41 dX5_readChoices_78 rfl
theorem f_41_79 (l : za_L) (st : List Value) (w : za_W) : za_n 41 (79, l, st, w) = za_x 41 (.iload_n 3) 79 l st w := za_n.at zcc_41 dX5_readChoices_79 rfl
theorem f_41_80 (l : za_L) (st : List Value) (w : za_W) : za_n 41 (80, l, st, w) = za_x 41 (.ifCond .ne 10) 80 l st w := za_n.at zcc_41 dX5_readChoices_80 rfl
theorem f_41_83 (l : za_L) (st : List Value) (w : za_W) : za_n 41 (83, l, st, w) = za_x 41 (.aload_n 0) 83 l st w := za_n.at zcc_41 dX5_readChoices_83 rfl
theorem f_41_84 (l : za_L) (st : List Value) (w : za_W) : za_n 41 (84, l, st, w) = za_go 86 l (.int (6) :: st) w := (za_n.at zcc_41 dX5_readChoices_84 rfl).trans (congrArg (fun x => za_go 86 l (.int x :: st) w) (by decide))
theorem f_41_86 (l : za_L) (st : List Value) (w : za_W) : za_n 41 (86, l, st, w) = za_x 41 (.invokevirtual 105) 86 l st w := za_n.at zcc_41 dX5_readChoices_86 rfl
theorem f_41_89 (l : za_L) (st : List Value) (w : za_W) : za_n 41 (89, l, st, w) = za_x 41 (.ireturn) 89 l st w := za_n.at zcc_41 dX5_readChoices_89 rfl
theorem f_41_90 (l : za_L) (st : List Value) (w : za_W) : za_n 41 (90, l, st, w) = za_x 41 (.aload_n 1) 90 l st w := za_n.at zcc_41 dX5_readChoices_90 rfl
theorem f_41_91 (l : za_L) (st : List Value) (w : za_W) : za_n 41 (91, l, st, w) = za_x 41 (.iload_n 2) 91 l st w := za_n.at zcc_41 dX5_readChoices_91 rfl
theorem f_41_92 (l : za_L) (st : List Value) (w : za_W) : za_n 41 (92, l, st, w) = za_x 41 (.putfield 185) 92 l st w := za_n.at zcc_41 dX5_readChoices_92 rfl
theorem f_41_95 (l : za_L) (st : List Value) (w : za_W) : za_n 41 (95, l, st, w) = za_x 41 (.aload_n 1) 95 l st w := za_n.at zcc_41 dX5_readChoices_95 rfl
theorem f_41_96 (l : za_L) (st : List Value) (w : za_W) : za_n 41 (96, l, st, w) = za_x 41 (.iload_n 3) 96 l st w := za_n.at zcc_41 dX5_readChoices_96 rfl
theorem f_41_97 (l : za_L) (st : List Value) (w : za_W) : za_n 41 (97, l, st, w) = za_x 41 (.putfield 188) 97 l st w := za_n.at zcc_41 dX5_readChoices_97 rfl
theorem f_41_100 (l : za_L) (st : List Value) (w : za_W) : za_n 41 (100, l, st, w) = za_x 41 (.aload_n 0) 100 l st w := za_n.at zcc_41 dX5_readChoices_100 rfl
theorem f_41_101 (l : za_L) (st : List Value) (w : za_W) : za_n 41 (101, l, st, w) = za_x 41 (.getfield 40) 101 l st w := za_n.at zcc_41 dX5_readChoices_101 rfl
theorem f_41_104 (l : za_L) (st : List Value) (w : za_W) : za_n 41 (104, l, st, w) = za_go 105 l (.int (5) :: st) w := (za_n.at zcc_41 dX5_readChoices_104 rfl).trans (congrArg (fun x => za_go 105 l (.int x :: st) w) (by decide))
theorem f_41_105 (l : za_L) (st : List Value) (w : za_W) : za_n 41 (105, l, st, w) = za_x 41 (.iload_n 2) 105 l st w := za_n.at zcc_41 dX5_readChoices_105 rfl
theorem f_41_106 (l : za_L) (st : List Value) (w : za_W) : za_n 41 (106, l, st, w) = za_x 41 (.invokevirtual 115) 106 l st w := za_n.at zcc_41 dX5_readChoices_106 rfl
theorem f_41_109 (l : za_L) (st : List Value) (w : za_W) : za_n 41 (109, l, st, w) = za_x 41 (.aload_n 0) 109 l st w := za_n.at zcc_41 dX5_readChoices_109 rfl
theorem f_41_110 (l : za_L) (st : List Value) (w : za_W) : za_n 41 (110, l, st, w) = za_x 41 (.getfield 40) 110 l st w := za_n.at zcc_41 dX5_readChoices_110 rfl
theorem f_41_113 (l : za_L) (st : List Value) (w : za_W) : za_n 41 (113, l, st, w) = za_go 115 l (.int (6) :: st) w := (za_n.at zcc_41 dX5_readChoices_113 rfl).trans (congrArg (fun x => za_go 115 l (.int x :: st) w) (by decide))
theorem f_41_115 (l : za_L) (st : List Value) (w : za_W) : za_n 41 (115, l, st, w) = za_x 41 (.iload_n 3) 115 l st w := za_n.at zcc_41 dX5_readChoices_115 rfl
theorem f_41_116 (l : za_L) (st : List Value) (w : za_W) : za_n 41 (116, l, st, w) = za_x 41 (.invokevirtual 115) 116 l st w := za_n.at zcc_41 dX5_readChoices_116 rfl
theorem f_41_119 (l : za_L) (st : List Value) (w : za_W) : za_n 41 (119, l, st, w) = za_x 41 (.aload_n 0) 119 l st w := za_n.at zcc_41 dX5_readChoices_119 rfl
theorem f_41_120 (l : za_L) (st : List Value) (w : za_W) : za_n 41 (120, l, st, w) = za_x 41 (.getfield 20) 120 l st w := za_n.at zcc_41 dX5_readChoices_120 rfl
theorem f_41_123 (l : za_L) (st : List Value) (w : za_W) : za_n 41 (123, l, st, w) = za_x 41 (.iload_n 2) 123 l st w := za_n.at zcc_41 dX5_readChoices_123 rfl
theorem f_41_124 (l : za_L) (st : List Value) (w : za_W) : za_n 41 (124, l, st, w) = za_x 41 (.invokevirtual 191) 124 l st w := za_n.at zcc_41 dX5_readChoices_124 rfl
theorem f_41_127 (l : za_L) (st : List Value) (w : za_W) : za_n 41 (127, l, st, w) = za_go 128 l (.int (0) :: st) w := (za_n.at zcc_41 dX5_readChoices_127 rfl).trans (congrArg (fun x => za_go 128 l (.int x :: st) w) (by decide))
theorem f_41_128 (l : za_L) (st : List Value) (w : za_W) : za_n 41 (128, l, st, w) = za_x 41 (.istore 4) 128 l st w := za_n.at zcc_41 dX5_readChoices_128 rfl
theorem f_41_130 (l : za_L) (st : List Value) (w : za_W) : za_n 41 (130, l, st, w) = za_x 41 (.iload 4) 130 l st w := za_n.at zcc_41 dX5_readChoices_130 rfl
theorem f_41_132 (l : za_L) (st : List Value) (w : za_W) : za_n 41 (132, l, st, w) = za_x 41 (.iload_n 3) 132 l st w := za_n.at zcc_41 dX5_readChoices_132 rfl
theorem f_41_133 (l : za_L) (st : List Value) (w : za_W) : za_n 41 (133, l, st, w) = za_x 41 (.if_icmp .ge 21) 133 l st w := za_n.at zcc_41 dX5_readChoices_133 rfl
theorem f_41_136 (l : za_L) (st : List Value) (w : za_W) : za_n 41 (136, l, st, w) = za_x 41 (.aload_n 0) 136 l st w := za_n.at zcc_41 dX5_readChoices_136 rfl
theorem f_41_137 (l : za_L) (st : List Value) (w : za_W) : za_n 41 (137, l, st, w) = za_x 41 (.aload_n 1) 137 l st w := za_n.at zcc_41 dX5_readChoices_137 rfl
theorem f_41_138 (l : za_L) (st : List Value) (w : za_W) : za_n 41 (138, l, st, w) = za_x 41 (.iload 4) 138 l st w := za_n.at zcc_41 dX5_readChoices_138 rfl
theorem f_41_140 (l : za_L) (st : List Value) (w : za_W) : za_n 41 (140, l, st, w) = za_x 41 (.invokevirtual 192) 140 l st w := za_n.at zcc_41 dX5_readChoices_140 rfl
theorem f_41_143 (l : za_L) (st : List Value) (w : za_W) : za_n 41 (143, l, st, w) = za_x 41 (.ifCond .ne 5) 143 l st w := za_n.at zcc_41 dX5_readChoices_143 rfl
theorem f_41_146 (l : za_L) (st : List Value) (w : za_W) : za_n 41 (146, l, st, w) = za_go 147 l (.int (0) :: st) w := (za_n.at zcc_41 dX5_readChoices_146 rfl).trans (congrArg (fun x => za_go 147 l (.int x :: st) w) (by decide))
theorem f_41_147 (l : za_L) (st : List Value) (w : za_W) : za_n 41 (147, l, st, w) = za_x 41 (.ireturn) 147 l st w := za_n.at zcc_41 dX5_readChoices_147 rfl
theorem f_41_148 (l : za_L) (st : List Value) (w : za_W) : za_n 41 (148, l, st, w) = za_x 41 (.iinc 4 1) 148 l st w := za_n.at zcc_41 dX5_readChoices_148 rfl
theorem f_41_151 (l : za_L) (st : List Value) (w : za_W) : za_n 41 (151, l, st, w) = za_go 130 l st w := (za_n.at zcc_41 dX5_readChoices_151 rfl).trans (za_jp.at (by decide))
theorem f_41_154 (l : za_L) (st : List Value) (w : za_W) : za_n 41 (154, l, st, w) = za_go 155 l (.int (1) :: st) w := (za_n.at zcc_41 dX5_readChoices_154 rfl).trans (congrArg (fun x => za_go 155 l (.int x :: st) w) (by decide))
theorem f_41_155 (l : za_L) (st : List Value) (w : za_W) : za_n 41 (155, l, st, w) = za_x 41 (.ireturn) 155 l st w := za_n.at zcc_41 dX5_readChoices_155 rfl
theorem f_42_0 (l : za_L) (st : List Value) (w : za_W) : za_n 42 (0, l, st, w) = za_go 1 l (.int (0) :: st) w := (za_n.at zcc_42 dX5_readChoice_0 rfl).trans (congrArg (fun x => za_go 1 l (.int x :: st) w) (by decide))
theorem f_42_1 (l : za_L) (st : List Value) (w : za_W) : za_n 42 (1, l, st, w) = za_x 42 (.istore_n 3) 1 l st w := za_n.at zcc_42 dX5_readChoice_1 rfl
theorem f_42_2 (l : za_L) (st : List Value) (w : za_W) : za_n 42 (2, l, st, w) = za_x 42 (.iload_n 3) 2 l st w := za_n.at zcc_42 dX5_readChoice_2 rfl
theorem f_42_3 (l : za_L) (st : List Value) (w : za_W) : za_n 42 (3, l, st, w) = za_x 42 (.aload_n 1) 3 l st w := za_n.at zcc_42 dX5_readChoice_3 rfl
theorem f_42_4 (l : za_L) (st : List Value) (w : za_W) : za_n 42 (4, l, st, w) = za_x 42 (.getfield 185) 4 l st w := za_n.at zcc_42 dX5_readChoice_4 rfl
theorem f_42_7 (l : za_L) (st : List Value) (w : za_W) : za_n 42 (7, l, st, w) = za_x 42 (.if_icmp .ge 50) 7 l st w := za_n.at zcc_42 dX5_readChoice_7 rfl
theorem f_42_10 (l : za_L) (st : List Value) (w : za_W) : za_n 42 (10, l, st, w) = za_x 42 (.aload_n 0) 10 l st w := za_n.at zcc_42 dX5_readChoice_10 rfl
theorem f_42_11 (l : za_L) (st : List Value) (w : za_W) : za_n 42 (11, l, st, w) = za_x 42 (.getfield 53) 11 l st w := za_n.at zcc_42 dX5_readChoice_11 rfl
theorem f_42_14 (l : za_L) (st : List Value) (w : za_W) : za_n 42 (14, l, st, w) = za_x 42 (.invokevirtual 138) 14 l st w := za_n.at zcc_42 dX5_readChoice_14 rfl
theorem f_42_17 (l : za_L) (st : List Value) (w : za_W) : za_n 42 (17, l, st, w) = za_x 42 (.istore 4) 17 l st w := za_n.at zcc_42 dX5_readChoice_17 rfl
theorem f_42_19 (l : za_L) (st : List Value) (w : za_W) : za_n 42 (19, l, st, w) = za_x 42 (.iload 4) 19 l st w := za_n.at zcc_42 dX5_readChoice_19 rfl
theorem f_42_21 (l : za_L) (st : List Value) (w : za_W) : za_n 42 (21, l, st, w) = za_go 22 l (.int (-1) :: st) w := (za_n.at zcc_42 dX5_readChoice_21 rfl).trans (congrArg (fun x => za_go 22 l (.int x :: st) w) (by decide))
theorem f_42_22 (l : za_L) (st : List Value) (w : za_W) : za_n 42 (22, l, st, w) = za_x 42 (.if_icmp .ne 9) 22 l st w := za_n.at zcc_42 dX5_readChoice_22 rfl
theorem f_42_25 (l : za_L) (st : List Value) (w : za_W) : za_n 42 (25, l, st, w) = za_x 42 (.aload_n 0) 25 l st w := za_n.at zcc_42 dX5_readChoice_25 rfl
theorem f_42_26 (l : za_L) (st : List Value) (w : za_W) : za_n 42 (26, l, st, w) = za_go 27 l (.int (1) :: st) w := (za_n.at zcc_42 dX5_readChoice_26 rfl).trans (congrArg (fun x => za_go 27 l (.int x :: st) w) (by decide))
theorem f_42_27 (l : za_L) (st : List Value) (w : za_W) : za_n 42 (27, l, st, w) = za_x 42 (.invokevirtual 105) 27 l st w := za_n.at zcc_42 dX5_readChoice_27 rfl
theorem f_42_30 (l : za_L) (st : List Value) (w : za_W) : za_n 42 (30, l, st, w) = za_x 42 (.ireturn) 30 l st w := za_n.at zcc_42 dX5_readChoice_30 rfl
theorem f_42_31 (l : za_L) (st : List Value) (w : za_W) : za_n 42 (31, l, st, w) = za_x 42 (.iload 4) 31 l st w := za_n.at zcc_42 dX5_readChoice_31 rfl
theorem f_42_33 (l : za_L) (st : List Value) (w : za_W) : za_n 42 (33, l, st, w) = za_x 42 (.ifCond .ne 18) 33 l st w := za_n.at zcc_42 dX5_readChoice_33 rfl
theorem f_42_36 (l : za_L) (st : List Value) (w : za_W) : za_n 42 (36, l, st, w) = za_x 42 (.aload_n 1) 36 l st w := za_n.at zcc_42 dX5_readChoice_36 rfl
theorem f_42_37 (l : za_L) (st : List Value) (w : za_W) : za_n 42 (37, l, st, w) = za_x 42 (.iload_n 2) 37 l st w := za_n.at zcc_42 dX5_readChoice_37 rfl
theorem f_42_38 (l : za_L) (st : List Value) (w : za_W) : za_n 42 (38, l, st, w) = za_x 42 (.aload_n 0) 38 l st w := za_n.at zcc_42 dX5_readChoice_38 rfl
theorem f_42_39 (l : za_L) (st : List Value) (w : za_W) : za_n 42 (39, l, st, w) = za_x 42 (.getfield 20) 39 l st w := za_n.at zcc_42 dX5_readChoice_39 rfl
theorem f_42_42 (l : za_L) (st : List Value) (w : za_W) : za_n 42 (42, l, st, w) = za_x 42 (.iload_n 3) 42 l st w := za_n.at zcc_42 dX5_readChoice_42 rfl
theorem f_42_43 (l : za_L) (st : List Value) (w : za_W) : za_n 42 (43, l, st, w) = za_x 42 (.invokevirtual 195) 43 l st w := za_n.at zcc_42 dX5_readChoice_43 rfl
theorem f_42_46 (l : za_L) (st : List Value) (w : za_W) : za_n 42 (46, l, st, w) = za_x 42 (.invokevirtual 199) 46 l st w := za_n.at zcc_42 dX5_readChoice_46 rfl
theorem f_42_49 (l : za_L) (st : List Value) (w : za_W) : za_n 42 (49, l, st, w) = za_go 50 l (.int (1) :: st) w := (za_n.at zcc_42 dX5_readChoice_49 rfl).trans (congrArg (fun x => za_go 50 l (.int x :: st) w) (by decide))
theorem f_42_50 (l : za_L) (st : List Value) (w : za_W) : za_n 42 (50, l, st, w) = za_x 42 (.ireturn) 50 l st w := za_n.at zcc_42 dX5_readChoice_50 rfl
theorem f_42_51 (l : za_L) (st : List Value) (w : za_W) : za_n 42 (51, l, st, w) = za_x 42 (.iinc 3 1) 51 l st w := za_n.at zcc_42 dX5_readChoice_51 rfl
theorem f_42_54 (l : za_L) (st : List Value) (w : za_W) : za_n 42 (54, l, st, w) = za_go 2 l st w := (za_n.at zcc_42 dX5_readChoice_54 rfl).trans (za_jp.at (by decide))
theorem f_42_57 (l : za_L) (st : List Value) (w : za_W) : za_n 42 (57, l, st, w) = za_x 42 (.aload_n 0) 57 l st w := za_n.at zcc_42 dX5_readChoice_57 rfl
theorem f_42_58 (l : za_L) (st : List Value) (w : za_W) : za_n 42 (58, l, st, w) = za_go 60 l (.int (6) :: st) w := (za_n.at zcc_42 dX5_readChoice_58 rfl).trans (congrArg (fun x => za_go 60 l (.int x :: st) w) (by decide))
theorem f_42_60 (l : za_L) (st : List Value) (w : za_W) : za_n 42 (60, l, st, w) = za_x 42 (.invokevirtual 105) 60 l st w := za_n.at zcc_42 dX5_readChoice_60 rfl
theorem f_42_63 (l : za_L) (st : List Value) (w : za_W) : za_n 42 (63, l, st, w) = za_x 42 (.ireturn) 63 l st w := za_n.at zcc_42 dX5_readChoice_63 rfl
theorem f_43_0 (l : za_L) (st : List Value) (w : za_W) : za_n 43 (0, l, st, w) = za_go 1 l (.int (0) :: st) w := (za_n.at zcc_43 dX5_readLengths_0 rfl).trans (congrArg (fun x => za_go 1 l (.int x :: st) w) (by decide))
theorem f_43_1 (l : za_L) (st : List Value) (w : za_W) : za_n 43 (1, l, st, w) = za_x 43 (.istore_n 2) 1 l st w := za_n.at zcc_43 dX5_readLengths_1 rfl
theorem f_43_2 (l : za_L) (st : List Value) (w : za_W) : za_n 43 (2, l, st, w) = za_x 43 (.iload_n 2) 2 l st w := za_n.at zcc_43 dX5_readLengths_2 rfl
theorem f_43_3 (l : za_L) (st : List Value) (w : za_W) : za_n 43 (3, l, st, w) = za_x 43 (.aload_n 1) 3 l st w := za_n.at zcc_43 dX5_readLengths_3 rfl
theorem f_43_4 (l : za_L) (st : List Value) (w : za_W) : za_n 43 (4, l, st, w) = za_x 43 (.getfield 185) 4 l st w := za_n.at zcc_43 dX5_readLengths_4 rfl
theorem f_43_7 (l : za_L) (st : List Value) (w : za_W) : za_n 43 (7, l, st, w) = za_x 43 (.if_icmp .ge 104) 7 l st w := za_n.at zcc_43 dX5_readLengths_7 rfl
theorem f_43_10 (l : za_L) (st : List Value) (w : za_W) : za_n 43 (10, l, st, w) = za_x 43 (.aload_n 0) 10 l st w := za_n.at zcc_43 dX5_readLengths_10 rfl
theorem f_43_11 (l : za_L) (st : List Value) (w : za_W) : za_n 43 (11, l, st, w) = za_x 43 (.getfield 53) 11 l st w := za_n.at zcc_43 dX5_readLengths_11 rfl
theorem f_43_14 (l : za_L) (st : List Value) (w : za_W) : za_n 43 (14, l, st, w) = za_go 15 l (.int (5) :: st) w := (za_n.at zcc_43 dX5_readLengths_14 rfl).trans (congrArg (fun x => za_go 15 l (.int x :: st) w) (by decide))
theorem f_43_15 (l : za_L) (st : List Value) (w : za_W) : za_n 43 (15, l, st, w) = za_x 43 (.invokevirtual 99) 15 l st w := za_n.at zcc_43 dX5_readLengths_15 rfl
theorem f_43_18 (l : za_L) (st : List Value) (w : za_W) : za_n 43 (18, l, st, w) = za_x 43 (.l2i) 18 l st w := za_n.at zcc_43 dX5_readLengths_18 rfl
theorem f_43_19 (l : za_L) (st : List Value) (w : za_W) : za_n 43 (19, l, st, w) = za_x 43 (.istore_n 3) 19 l st w := za_n.at zcc_43 dX5_readLengths_19 rfl
theorem f_43_20 (l : za_L) (st : List Value) (w : za_W) : za_n 43 (20, l, st, w) = za_x 43 (.iload_n 3) 20 l st w := za_n.at zcc_43 dX5_readLengths_20 rfl
theorem f_43_21 (l : za_L) (st : List Value) (w : za_W) : za_n 43 (21, l, st, w) = za_go 22 l (.int (-1) :: st) w := (za_n.at zcc_43 dX5_readLengths_21 rfl).trans (congrArg (fun x => za_go 22 l (.int x :: st) w) (by decide))
theorem f_43_22 (l : za_L) (st : List Value) (w : za_W) : za_n 43 (22, l, st, w) = za_x 43 (.if_icmp .ne 9) 22 l st w := za_n.at zcc_43 dX5_readLengths_22 rfl
theorem f_43_25 (l : za_L) (st : List Value) (w : za_W) : za_n 43 (25, l, st, w) = za_x 43 (.aload_n 0) 25 l st w := za_n.at zcc_43 dX5_readLengths_25 rfl
theorem f_43_26 (l : za_L) (st : List Value) (w : za_W) : za_n 43 (26, l, st, w) = za_go 27 l (.int (1) :: st) w := (za_n.at zcc_43 dX5_readLengths_26 rfl).trans (congrArg (fun x => za_go 27 l (.int x :: st) w) (by decide))
theorem f_43_27 (l : za_L) (st : List Value) (w : za_W) : za_n 43 (27, l, st, w) = za_x 43 (.invokevirtual 105) 27 l st w := za_n.at zcc_43 dX5_readLengths_27 rfl
theorem f_43_30 (l : za_L) (st : List Value) (w : za_W) : za_n 43 (30, l, st, w) = za_x 43 (.ireturn) 30 l st w := za_n.at zcc_43 dX5_readLengths_30 rfl
theorem f_43_31 (l : za_L) (st : List Value) (w : za_W) : za_n 43 (31, l, st, w) = za_x 43 (.iload_n 3) 31 l st w := za_n.at zcc_43 dX5_readLengths_31 rfl
theorem f_43_32 (l : za_L) (st : List Value) (w : za_W) : za_n 43 (32, l, st, w) = za_x 43 (.invokestatic 202) 32 l st w := za_n.at zcc_43 dX5_readLengths_32 rfl
theorem f_43_35 (l : za_L) (st : List Value) (w : za_W) : za_n 43 (35, l, st, w) = za_x 43 (.ifCond .ne 10) 35 l st w := za_n.at zcc_43 dX5_readLengths_35 rfl
theorem f_43_38 (l : za_L) (st : List Value) (w : za_W) : za_n 43 (38, l, st, w) = za_x 43 (.aload_n 0) 38 l st w := za_n.at zcc_43 dX5_readLengths_38 rfl
theorem f_43_39 (l : za_L) (st : List Value) (w : za_W) : za_n 43 (39, l, st, w) = za_go 41 l (.int (7) :: st) w := (za_n.at zcc_43 dX5_readLengths_39 rfl).trans (congrArg (fun x => za_go 41 l (.int x :: st) w) (by decide))
theorem f_43_41 (l : za_L) (st : List Value) (w : za_W) : za_n 43 (41, l, st, w) = za_x 43 (.invokevirtual 105) 41 l st w := za_n.at zcc_43 dX5_readLengths_41 rfl
theorem f_43_44 (l : za_L) (st : List Value) (w : za_W) : za_n 43 (44, l, st, w) = za_x 43 (.ireturn) 44 l st w := za_n.at zcc_43 dX5_readLengths_44 rfl
theorem f_43_45 (l : za_L) (st : List Value) (w : za_W) : za_n 43 (45, l, st, w) = za_go 46 l (.int (0) :: st) w := (za_n.at zcc_43 dX5_readLengths_45 rfl).trans (congrArg (fun x => za_go 46 l (.int x :: st) w) (by decide))
theorem f_43_46 (l : za_L) (st : List Value) (w : za_W) : za_n 43 (46, l, st, w) = za_x 43 (.istore 4) 46 l st w := za_n.at zcc_43 dX5_readLengths_46 rfl
theorem f_43_48 (l : za_L) (st : List Value) (w : za_W) : za_n 43 (48, l, st, w) = za_x 43 (.iload 4) 48 l st w := za_n.at zcc_43 dX5_readLengths_48 rfl
theorem f_43_50 (l : za_L) (st : List Value) (w : za_W) : za_n 43 (50, l, st, w) = za_x 43 (.aload_n 1) 50 l st w := za_n.at zcc_43 dX5_readLengths_50 rfl
theorem f_43_51 (l : za_L) (st : List Value) (w : za_W) : za_n 43 (51, l, st, w) = za_x 43 (.getfield 180) 51 l st w := za_n.at zcc_43 dX5_readLengths_51 rfl
theorem f_43_54 (l : za_L) (st : List Value) (w : za_W) : za_n 43 (54, l, st, w) = za_x 43 (.if_icmp .ge 32) 54 l st w := za_n.at zcc_43 dX5_readLengths_54 rfl
theorem f_43_57 (l : za_L) (st : List Value) (w : za_W) : za_n 43 (57, l, st, w) = za_x 43 (.aload_n 0) 57 l st w := za_n.at zcc_43 dX5_readLengths_57 rfl
theorem f_43_58 (l : za_L) (st : List Value) (w : za_W) : za_n 43 (58, l, st, w) = za_x 43 (.iload_n 3) 58 l st w := za_n.at zcc_43 dX5_readLengths_58 rfl
theorem f_43_59 (l : za_L) (st : List Value) (w : za_W) : za_n 43 (59, l, st, w) = za_x 43 (.invokevirtual 205) 59 l st w := za_n.at zcc_43 dX5_readLengths_59 rfl
theorem f_43_62 (l : za_L) (st : List Value) (w : za_W) : za_n 43 (62, l, st, w) = za_x 43 (.istore_n 3) 62 l st w := za_n.at zcc_43 dX5_readLengths_62 rfl
theorem f_43_63 (l : za_L) (st : List Value) (w : za_W) : za_n 43 (63, l, st, w) = za_x 43 (.iload_n 3) 63 l st w := za_n.at zcc_43 dX5_readLengths_63 rfl
theorem f_43_64 (l : za_L) (st : List Value) (w : za_W) : za_n 43 (64, l, st, w) = za_go 65 l (.int (-1) :: st) w := (za_n.at zcc_43 dX5_readLengths_64 rfl).trans (congrArg (fun x => za_go 65 l (.int x :: st) w) (by decide))
theorem f_43_65 (l : za_L) (st : List Value) (w : za_W) : za_n 43 (65, l, st, w) = za_x 43 (.if_icmp .ne 5) 65 l st w := za_n.at zcc_43 dX5_readLengths_65 rfl
theorem f_43_68 (l : za_L) (st : List Value) (w : za_W) : za_n 43 (68, l, st, w) = za_go 69 l (.int (0) :: st) w := (za_n.at zcc_43 dX5_readLengths_68 rfl).trans (congrArg (fun x => za_go 69 l (.int x :: st) w) (by decide))
theorem f_43_69 (l : za_L) (st : List Value) (w : za_W) : za_n 43 (69, l, st, w) = za_x 43 (.ireturn) 69 l st w := za_n.at zcc_43 dX5_readLengths_69 rfl
theorem f_43_70 (l : za_L) (st : List Value) (w : za_W) : za_n 43 (70, l, st, w) = za_x 43 (.aload_n 1) 70 l st w := za_n.at zcc_43 dX5_readLengths_70 rfl
theorem f_43_71 (l : za_L) (st : List Value) (w : za_W) : za_n 43 (71, l, st, w) = za_x 43 (.getfield 208) 71 l st w := za_n.at zcc_43 dX5_readLengths_71 rfl
theorem f_43_74 (l : za_L) (st : List Value) (w : za_W) : za_n 43 (74, l, st, w) = za_x 43 (.iload_n 2) 74 l st w := za_n.at zcc_43 dX5_readLengths_74 rfl
theorem f_43_75 (l : za_L) (st : List Value) (w : za_W) : za_n 43 (75, l, st, w) = za_x 43 (.aaload) 75 l st w := za_n.at zcc_43 dX5_readLengths_75 rfl
theorem f_43_76 (l : za_L) (st : List Value) (w : za_W) : za_n 43 (76, l, st, w) = za_x 43 (.iload 4) 76 l st w := za_n.at zcc_43 dX5_readLengths_76 rfl
theorem f_43_78 (l : za_L) (st : List Value) (w : za_W) : za_n 43 (78, l, st, w) = za_x 43 (.iload_n 3) 78 l st w := za_n.at zcc_43 dX5_readLengths_78 rfl
theorem f_43_79 (l : za_L) (st : List Value) (w : za_W) : za_n 43 (79, l, st, w) = za_x 43 (.iastore) 79 l st w := za_n.at zcc_43 dX5_readLengths_79 rfl
theorem f_43_80 (l : za_L) (st : List Value) (w : za_W) : za_n 43 (80, l, st, w) = za_x 43 (.iinc 4 1) 80 l st w := za_n.at zcc_43 dX5_readLengths_80 rfl
theorem f_43_83 (l : za_L) (st : List Value) (w : za_W) : za_n 43 (83, l, st, w) = za_go 48 l st w := (za_n.at zcc_43 dX5_readLengths_83 rfl).trans (za_jp.at (by decide))
theorem f_43_86 (l : za_L) (st : List Value) (w : za_W) : za_n 43 (86, l, st, w) = za_x 43 (.aload_n 0) 86 l st w := za_n.at zcc_43 dX5_readLengths_86 rfl
theorem f_43_87 (l : za_L) (st : List Value) (w : za_W) : za_n 43 (87, l, st, w) = za_x 43 (.getfield 25) 87 l st w := za_n.at zcc_43 dX5_readLengths_87 rfl
theorem f_43_90 (l : za_L) (st : List Value) (w : za_W) : za_n 43 (90, l, st, w) = za_x 43 (.iload_n 2) 90 l st w := za_n.at zcc_43 dX5_readLengths_90 rfl
theorem f_43_91 (l : za_L) (st : List Value) (w : za_W) : za_n 43 (91, l, st, w) = za_x 43 (.aaload) 91 l st w := za_n.at zcc_43 dX5_readLengths_91 rfl
theorem f_43_92 (l : za_L) (st : List Value) (w : za_W) : za_n 43 (92, l, st, w) = za_x 43 (.aload_n 1) 92 l st w := za_n.at zcc_43 dX5_readLengths_92 rfl
theorem f_43_93 (l : za_L) (st : List Value) (w : za_W) : za_n 43 (93, l, st, w) = za_x 43 (.getfield 208) 93 l st w := za_n.at zcc_43 dX5_readLengths_93 rfl
theorem f_43_96 (l : za_L) (st : List Value) (w : za_W) : za_n 43 (96, l, st, w) = za_x 43 (.iload_n 2) 96 l st w := za_n.at zcc_43 dX5_readLengths_96 rfl
theorem f_43_97 (l : za_L) (st : List Value) (w : za_W) : za_n 43 (97, l, st, w) = za_x 43 (.aaload) 97 l st w := za_n.at zcc_43 dX5_readLengths_97 rfl
theorem f_43_98 (l : za_L) (st : List Value) (w : za_W) : za_n 43 (98, l, st, w) = za_x 43 (.aload_n 1) 98 l st w := za_n.at zcc_43 dX5_readLengths_98 rfl
theorem f_43_99 (l : za_L) (st : List Value) (w : za_W) : za_n 43 (99, l, st, w) = za_x 43 (.getfield 180) 99 l st w := za_n.at zcc_43 dX5_readLengths_99 rfl
theorem f_43_102 (l : za_L) (st : List Value) (w : za_W) : za_n 43 (102, l, st, w) = za_x 43 (.invokevirtual 212) 102 l st w := za_n.at zcc_43 dX5_readLengths_102 rfl
theorem f_43_105 (l : za_L) (st : List Value) (w : za_W) : za_n 43 (105, l, st, w) = za_x 43 (.iinc 2 1) 105 l st w := za_n.at zcc_43 dX5_readLengths_105 rfl
theorem f_43_108 (l : za_L) (st : List Value) (w : za_W) : za_n 43 (108, l, st, w) = za_go 2 l st w := (za_n.at zcc_43 dX5_readLengths_108 rfl).trans (za_jp.at (by decide))
theorem f_43_111 (l : za_L) (st : List Value) (w : za_W) : za_n 43 (111, l, st, w) = za_go 112 l (.int (1) :: st) w := (za_n.at zcc_43 dX5_readLengths_111 rfl).trans (congrArg (fun x => za_go 112 l (.int x :: st) w) (by decide))
theorem f_43_112 (l : za_L) (st : List Value) (w : za_W) : za_n 43 (112, l, st, w) = za_x 43 (.ireturn) 112 l st w := za_n.at zcc_43 dX5_readLengths_112 rfl
theorem f_44_0 (l : za_L) (st : List Value) (w : za_W) : za_n 44 (0, l, st, w) = za_x 44 (.iload_n 1) 0 l st w := za_n.at zcc_44 dX5_changedLength_0 rfl
theorem f_44_1 (l : za_L) (st : List Value) (w : za_W) : za_n 44 (1, l, st, w) = za_x 44 (.istore_n 2) 1 l st w := za_n.at zcc_44 dX5_changedLength_1 rfl
theorem f_44_2 (l : za_L) (st : List Value) (w : za_W) : za_n 44 (2, l, st, w) = za_go 3 l (.int (0) :: st) w := (za_n.at zcc_44 dX5_changedLength_2 rfl).trans (congrArg (fun x => za_go 3 l (.int x :: st) w) (by decide))
theorem f_44_3 (l : za_L) (st : List Value) (w : za_W) : za_n 44 (3, l, st, w) = za_x 44 (.istore_n 3) 3 l st w := za_n.at zcc_44 dX5_changedLength_3 rfl
theorem f_44_4 (l : za_L) (st : List Value) (w : za_W) : za_n 44 (4, l, st, w) = za_x 44 (.iload_n 3) 4 l st w := za_n.at zcc_44 dX5_changedLength_4 rfl
theorem f_44_5 (l : za_L) (st : List Value) (w : za_W) : za_n 44 (5, l, st, w) = za_go 8 l (.int (12000) :: st) w := (za_n.at zcc_44 dX5_changedLength_5 rfl).trans (congrArg (fun x => za_go 8 l (.int x :: st) w) (by decide))
theorem f_44_8 (l : za_L) (st : List Value) (w : za_W) : za_n 44 (8, l, st, w) = za_x 44 (.if_icmp .ge 87) 8 l st w := za_n.at zcc_44 dX5_changedLength_8 rfl
theorem f_44_11 (l : za_L) (st : List Value) (w : za_W) : za_n 44 (11, l, st, w) = za_x 44 (.aload_n 0) 11 l st w := za_n.at zcc_44 dX5_changedLength_11 rfl
theorem f_44_12 (l : za_L) (st : List Value) (w : za_W) : za_n 44 (12, l, st, w) = za_x 44 (.getfield 53) 12 l st w := za_n.at zcc_44 dX5_changedLength_12 rfl
theorem f_44_15 (l : za_L) (st : List Value) (w : za_W) : za_n 44 (15, l, st, w) = za_x 44 (.invokevirtual 138) 15 l st w := za_n.at zcc_44 dX5_changedLength_15 rfl
theorem f_44_18 (l : za_L) (st : List Value) (w : za_W) : za_n 44 (18, l, st, w) = za_x 44 (.istore 4) 18 l st w := za_n.at zcc_44 dX5_changedLength_18 rfl
theorem f_44_20 (l : za_L) (st : List Value) (w : za_W) : za_n 44 (20, l, st, w) = za_x 44 (.iload 4) 20 l st w := za_n.at zcc_44 dX5_changedLength_20 rfl
theorem f_44_22 (l : za_L) (st : List Value) (w : za_W) : za_n 44 (22, l, st, w) = za_x 44 (.ifCond .ne 5) 22 l st w := za_n.at zcc_44 dX5_changedLength_22 rfl
theorem f_44_25 (l : za_L) (st : List Value) (w : za_W) : za_n 44 (25, l, st, w) = za_x 44 (.iload_n 2) 25 l st w := za_n.at zcc_44 dX5_changedLength_25 rfl
theorem f_44_26 (l : za_L) (st : List Value) (w : za_W) : za_n 44 (26, l, st, w) = za_x 44 (.ireturn) 26 l st w := za_n.at zcc_44 dX5_changedLength_26 rfl
theorem f_44_27 (l : za_L) (st : List Value) (w : za_W) : za_n 44 (27, l, st, w) = za_x 44 (.iload 4) 27 l st w := za_n.at zcc_44 dX5_changedLength_27 rfl
theorem f_44_29 (l : za_L) (st : List Value) (w : za_W) : za_n 44 (29, l, st, w) = za_go 30 l (.int (-1) :: st) w := (za_n.at zcc_44 dX5_changedLength_29 rfl).trans (congrArg (fun x => za_go 30 l (.int x :: st) w) (by decide))
theorem f_44_30 (l : za_L) (st : List Value) (w : za_W) : za_n 44 (30, l, st, w) = za_x 44 (.if_icmp .ne 7) 30 l st w := za_n.at zcc_44 dX5_changedLength_30 rfl
theorem f_44_33 (l : za_L) (st : List Value) (w : za_W) : za_n 44 (33, l, st, w) = za_go 34 l (.int (-1) :: st) w := (za_n.at zcc_44 dX5_changedLength_33 rfl).trans (congrArg (fun x => za_go 34 l (.int x :: st) w) (by decide))
theorem f_44_34 (l : za_L) (st : List Value) (w : za_W) : za_n 44 (34, l, st, w) = za_go 44 l st w := (za_n.at zcc_44 dX5_changedLength_34 rfl).trans (za_jp.at (by decide))
theorem f_44_37 (l : za_L) (st : List Value) (w : za_W) : za_n 44 (37, l, st, w) = za_x 44 (.aload_n 0) 37 l st w := za_n.at zcc_44 dX5_changedLength_37 rfl
theorem f_44_38 (l : za_L) (st : List Value) (w : za_W) : za_n 44 (38, l, st, w) = za_x 44 (.getfield 53) 38 l st w := za_n.at zcc_44 dX5_changedLength_38 rfl
theorem f_44_41 (l : za_L) (st : List Value) (w : za_W) : za_n 44 (41, l, st, w) = za_x 44 (.invokevirtual 138) 41 l st w := za_n.at zcc_44 dX5_changedLength_41 rfl
theorem f_44_44 (l : za_L) (st : List Value) (w : za_W) : za_n 44 (44, l, st, w) = za_x 44 (.istore 5) 44 l st w := za_n.at zcc_44 dX5_changedLength_44 rfl
theorem f_44_46 (l : za_L) (st : List Value) (w : za_W) : za_n 44 (46, l, st, w) = za_x 44 (.iload 5) 46 l st w := za_n.at zcc_44 dX5_changedLength_46 rfl
theorem f_44_48 (l : za_L) (st : List Value) (w : za_W) : za_n 44 (48, l, st, w) = za_go 49 l (.int (-1) :: st) w := (za_n.at zcc_44 dX5_changedLength_48 rfl).trans (congrArg (fun x => za_go 49 l (.int x :: st) w) (by decide))
theorem f_44_49 (l : za_L) (st : List Value) (w : za_W) : za_n 44 (49, l, st, w) = za_x 44 (.if_icmp .ne 11) 49 l st w := za_n.at zcc_44 dX5_changedLength_49 rfl
theorem f_44_52 (l : za_L) (st : List Value) (w : za_W) : za_n 44 (52, l, st, w) = za_x 44 (.aload_n 0) 52 l st w := za_n.at zcc_44 dX5_changedLength_52 rfl
theorem f_44_53 (l : za_L) (st : List Value) (w : za_W) : za_n 44 (53, l, st, w) = za_go 54 l (.int (1) :: st) w := (za_n.at zcc_44 dX5_changedLength_53 rfl).trans (congrArg (fun x => za_go 54 l (.int x :: st) w) (by decide))
theorem f_44_54 (l : za_L) (st : List Value) (w : za_W) : za_n 44 (54, l, st, w) = za_x 44 (.invokevirtual 105) 54 l st w := za_n.at zcc_44 dX5_changedLength_54 rfl
theorem f_44_57 (l : za_L) (st : List Value) (w : za_W) : za_n 44 (57, l, st, w) = za_x 44 (.pop) 57 l st w := za_n.at zcc_44 dX5_changedLength_57 rfl
theorem f_44_58 (l : za_L) (st : List Value) (w : za_W) : za_n 44 (58, l, st, w) = za_go 59 l (.int (-1) :: st) w := (za_n.at zcc_44 dX5_changedLength_58 rfl).trans (congrArg (fun x => za_go 59 l (.int x :: st) w) (by decide))
theorem f_44_59 (l : za_L) (st : List Value) (w : za_W) : za_n 44 (59, l, st, w) = za_x 44 (.ireturn) 59 l st w := za_n.at zcc_44 dX5_changedLength_59 rfl
theorem f_44_60 (l : za_L) (st : List Value) (w : za_W) : za_n 44 (60, l, st, w) = za_x 44 (.iload_n 2) 60 l st w := za_n.at zcc_44 dX5_changedLength_60 rfl
theorem f_44_61 (l : za_L) (st : List Value) (w : za_W) : za_n 44 (61, l, st, w) = za_x 44 (.iload 5) 61 l st w := za_n.at zcc_44 dX5_changedLength_61 rfl
theorem f_44_63 (l : za_L) (st : List Value) (w : za_W) : za_n 44 (63, l, st, w) = za_x 44 (.ifCond .ne 7) 63 l st w := za_n.at zcc_44 dX5_changedLength_63 rfl
theorem f_44_66 (l : za_L) (st : List Value) (w : za_W) : za_n 44 (66, l, st, w) = za_go 67 l (.int (1) :: st) w := (za_n.at zcc_44 dX5_changedLength_66 rfl).trans (congrArg (fun x => za_go 67 l (.int x :: st) w) (by decide))
theorem f_44_67 (l : za_L) (st : List Value) (w : za_W) : za_n 44 (67, l, st, w) = za_go 71 l st w := (za_n.at zcc_44 dX5_changedLength_67 rfl).trans (za_jp.at (by decide))
theorem f_44_70 (l : za_L) (st : List Value) (w : za_W) : za_n 44 (70, l, st, w) = za_go 71 l (.int (-1) :: st) w := (za_n.at zcc_44 dX5_changedLength_70 rfl).trans (congrArg (fun x => za_go 71 l (.int x :: st) w) (by decide))
theorem f_44_71 (l : za_L) (st : List Value) (w : za_W) : za_n 44 (71, l, st, w) = za_x 44 (.iadd) 71 l st w := za_n.at zcc_44 dX5_changedLength_71 rfl
theorem f_44_72 (l : za_L) (st : List Value) (w : za_W) : za_n 44 (72, l, st, w) = za_x 44 (.istore_n 2) 72 l st w := za_n.at zcc_44 dX5_changedLength_72 rfl
theorem f_44_73 (l : za_L) (st : List Value) (w : za_W) : za_n 44 (73, l, st, w) = za_x 44 (.iload_n 2) 73 l st w := za_n.at zcc_44 dX5_changedLength_73 rfl
theorem f_44_74 (l : za_L) (st : List Value) (w : za_W) : za_n 44 (74, l, st, w) = za_x 44 (.invokestatic 202) 74 l st w := za_n.at zcc_44 dX5_changedLength_74 rfl
theorem f_44_77 (l : za_L) (st : List Value) (w : za_W) : za_n 44 (77, l, st, w) = za_x 44 (.ifCond .ne 12) 77 l st w := za_n.at zcc_44 dX5_changedLength_77 rfl
theorem f_44_80 (l : za_L) (st : List Value) (w : za_W) : za_n 44 (80, l, st, w) = za_x 44 (.aload_n 0) 80 l st w := za_n.at zcc_44 dX5_changedLength_80 rfl
theorem f_44_81 (l : za_L) (st : List Value) (w : za_W) : za_n 44 (81, l, st, w) = za_go 83 l (.int (7) :: st) w := (za_n.at zcc_44 dX5_changedLength_81 rfl).trans (congrArg (fun x => za_go 83 l (.int x :: st) w) (by decide))
theorem f_44_83 (l : za_L) (st : List Value) (w : za_W) : za_n 44 (83, l, st, w) = za_x 44 (.invokevirtual 105) 83 l st w := za_n.at zcc_44 dX5_changedLength_83 rfl
theorem f_44_86 (l : za_L) (st : List Value) (w : za_W) : za_n 44 (86, l, st, w) = za_x 44 (.pop) 86 l st w := za_n.at zcc_44 dX5_changedLength_86 rfl
theorem f_44_87 (l : za_L) (st : List Value) (w : za_W) : za_n 44 (87, l, st, w) = za_go 88 l (.int (-1) :: st) w := (za_n.at zcc_44 dX5_changedLength_87 rfl).trans (congrArg (fun x => za_go 88 l (.int x :: st) w) (by decide))
theorem f_44_88 (l : za_L) (st : List Value) (w : za_W) : za_n 44 (88, l, st, w) = za_x 44 (.ireturn) 88 l st w := za_n.at zcc_44 dX5_changedLength_88 rfl
theorem f_44_89 (l : za_L) (st : List Value) (w : za_W) : za_n 44 (89, l, st, w) = za_x 44 (.iinc 3 1) 89 l st w := za_n.at zcc_44 dX5_changedLength_89 rfl
theorem f_44_92 (l : za_L) (st : List Value) (w : za_W) : za_n 44 (92, l, st, w) = za_go 4 l st w := (za_n.at zcc_44 dX5_changedLength_92 rfl).trans (za_jp.at (by decide))
theorem f_44_95 (l : za_L) (st : List Value) (w : za_W) : za_n 44 (95, l, st, w) = za_x 44 (.iload_n 2) 95 l st w := za_n.at zcc_44 dX5_changedLength_95 rfl
theorem f_44_96 (l : za_L) (st : List Value) (w : za_W) : za_n 44 (96, l, st, w) = za_x 44 (.ireturn) 96 l st w := za_n.at zcc_44 dX5_changedLength_96 rfl
theorem f_45_0 (l : za_L) (st : List Value) (w : za_W) : za_n 45 (0, l, st, w) = za_x 45 (.iload_n 0) 0 l st w := za_n.at zcc_45 dX5_isLength_0 rfl
theorem f_45_1 (l : za_L) (st : List Value) (w : za_W) : za_n 45 (1, l, st, w) = za_go 2 l (.int (1) :: st) w := (za_n.at zcc_45 dX5_isLength_1 rfl).trans (congrArg (fun x => za_go 2 l (.int x :: st) w) (by decide))
theorem f_45_2 (l : za_L) (st : List Value) (w : za_W) : za_n 45 (2, l, st, w) = za_x 45 (.if_icmp .lt 13) 2 l st w := za_n.at zcc_45 dX5_isLength_2 rfl
theorem f_45_5 (l : za_L) (st : List Value) (w : za_W) : za_n 45 (5, l, st, w) = za_x 45 (.iload_n 0) 5 l st w := za_n.at zcc_45 dX5_isLength_5 rfl
theorem f_45_6 (l : za_L) (st : List Value) (w : za_W) : za_n 45 (6, l, st, w) = za_go 8 l (.int (20) :: st) w := (za_n.at zcc_45 dX5_isLength_6 rfl).trans (congrArg (fun x => za_go 8 l (.int x :: st) w) (by decide))
theorem f_45_8 (l : za_L) (st : List Value) (w : za_W) : za_n 45 (8, l, st, w) = za_x 45 (.if_icmp .gt 7) 8 l st w := za_n.at zcc_45 dX5_isLength_8 rfl
theorem f_45_11 (l : za_L) (st : List Value) (w : za_W) : za_n 45 (11, l, st, w) = za_go 12 l (.int (1) :: st) w := (za_n.at zcc_45 dX5_isLength_11 rfl).trans (congrArg (fun x => za_go 12 l (.int x :: st) w) (by decide))
theorem f_45_12 (l : za_L) (st : List Value) (w : za_W) : za_n 45 (12, l, st, w) = za_go 16 l st w := (za_n.at zcc_45 dX5_isLength_12 rfl).trans (za_jp.at (by decide))
theorem f_45_15 (l : za_L) (st : List Value) (w : za_W) : za_n 45 (15, l, st, w) = za_go 16 l (.int (0) :: st) w := (za_n.at zcc_45 dX5_isLength_15 rfl).trans (congrArg (fun x => za_go 16 l (.int x :: st) w) (by decide))
theorem f_45_16 (l : za_L) (st : List Value) (w : za_W) : za_n 45 (16, l, st, w) = za_x 45 (.ireturn) 16 l st w := za_n.at zcc_45 dX5_isLength_16 rfl
theorem f_46_0 (l : za_L) (st : List Value) (w : za_W) : za_n 46 (0, l, st, w) = za_x 46 (.aload_n 0) 0 l st w := za_n.at zcc_46 dX5_readNumbers_0 rfl
theorem f_46_1 (l : za_L) (st : List Value) (w : za_W) : za_n 46 (1, l, st, w) = za_go 2 l (.int (0) :: st) w := (za_n.at zcc_46 dX5_readNumbers_1 rfl).trans (congrArg (fun x => za_go 2 l (.int x :: st) w) (by decide))
theorem f_46_2 (l : za_L) (st : List Value) (w : za_W) : za_n 46 (2, l, st, w) = za_x 46 (.putfield 216) 2 l st w := za_n.at zcc_46 dX5_readNumbers_2 rfl
theorem f_46_5 (l : za_L) (st : List Value) (w : za_W) : za_n 46 (5, l, st, w) = za_go 6 l (.int (0) :: st) w := (za_n.at zcc_46 dX5_readNumbers_5 rfl).trans (congrArg (fun x => za_go 6 l (.int x :: st) w) (by decide))
theorem f_46_6 (l : za_L) (st : List Value) (w : za_W) : za_n 46 (6, l, st, w) = za_x 46 (.istore_n 3) 6 l st w := za_n.at zcc_46 dX5_readNumbers_6 rfl
theorem f_46_7 (l : za_L) (st : List Value) (w : za_W) : za_n 46 (7, l, st, w) = za_go 8 l (.int (1) :: st) w := (za_n.at zcc_46 dX5_readNumbers_7 rfl).trans (congrArg (fun x => za_go 8 l (.int x :: st) w) (by decide))
theorem f_46_8 (l : za_L) (st : List Value) (w : za_W) : za_n 46 (8, l, st, w) = za_x 46 (.istore 4) 8 l st w := za_n.at zcc_46 dX5_readNumbers_8 rfl
theorem f_46_10 (l : za_L) (st : List Value) (w : za_W) : za_n 46 (10, l, st, w) = za_go 11 l (.int (0) :: st) w := (za_n.at zcc_46 dX5_readNumbers_10 rfl).trans (congrArg (fun x => za_go 11 l (.int x :: st) w) (by decide))
theorem f_46_11 (l : za_L) (st : List Value) (w : za_W) : za_n 46 (11, l, st, w) = za_x 46 (.istore 5) 11 l st w := za_n.at zcc_46 dX5_readNumbers_11 rfl
theorem f_46_13 (l : za_L) (st : List Value) (w : za_W) : za_n 46 (13, l, st, w) = za_x 46 (.iload 5) 13 l st w := za_n.at zcc_46 dX5_readNumbers_13 rfl
theorem f_46_15 (l : za_L) (st : List Value) (w : za_W) : za_n 46 (15, l, st, w) = za_go 18 l (.int (12000) :: st) w := (za_n.at zcc_46 dX5_readNumbers_15 rfl).trans (congrArg (fun x => za_go 18 l (.int x :: st) w) (by decide))
theorem f_46_18 (l : za_L) (st : List Value) (w : za_W) : za_n 46 (18, l, st, w) = za_x 46 (.if_icmp .ge 193) 18 l st w := za_n.at zcc_46 dX5_readNumbers_18 rfl
theorem f_46_21 (l : za_L) (st : List Value) (w : za_W) : za_n 46 (21, l, st, w) = za_x 46 (.iload 5) 21 l st w := za_n.at zcc_46 dX5_readNumbers_21 rfl
theorem f_46_23 (l : za_L) (st : List Value) (w : za_W) : za_n 46 (23, l, st, w) = za_go 25 l (.int (50) :: st) w := (za_n.at zcc_46 dX5_readNumbers_23 rfl).trans (congrArg (fun x => za_go 25 l (.int x :: st) w) (by decide))
theorem f_46_25 (l : za_L) (st : List Value) (w : za_W) : za_n 46 (25, l, st, w) = za_x 46 (.idiv) 25 l st w := za_n.at zcc_46 dX5_readNumbers_25 rfl
theorem f_46_26 (l : za_L) (st : List Value) (w : za_W) : za_n 46 (26, l, st, w) = za_x 46 (.aload_n 1) 26 l st w := za_n.at zcc_46 dX5_readNumbers_26 rfl
theorem f_46_27 (l : za_L) (st : List Value) (w : za_W) : za_n 46 (27, l, st, w) = za_x 46 (.getfield 188) 27 l st w := za_n.at zcc_46 dX5_readNumbers_27 rfl
theorem f_46_30 (l : za_L) (st : List Value) (w : za_W) : za_n 46 (30, l, st, w) = za_x 46 (.if_icmp .lt 10) 30 l st w := za_n.at zcc_46 dX5_readNumbers_30 rfl
theorem f_46_33 (l : za_L) (st : List Value) (w : za_W) : za_n 46 (33, l, st, w) = za_x 46 (.aload_n 0) 33 l st w := za_n.at zcc_46 dX5_readNumbers_33 rfl
theorem f_46_34 (l : za_L) (st : List Value) (w : za_W) : za_n 46 (34, l, st, w) = za_go 36 l (.int (8) :: st) w := (za_n.at zcc_46 dX5_readNumbers_34 rfl).trans (congrArg (fun x => za_go 36 l (.int x :: st) w) (by decide))
theorem f_46_36 (l : za_L) (st : List Value) (w : za_W) : za_n 46 (36, l, st, w) = za_x 46 (.invokevirtual 105) 36 l st w := za_n.at zcc_46 dX5_readNumbers_36 rfl
theorem f_46_39 (l : za_L) (st : List Value) (w : za_W) : za_n 46 (39, l, st, w) = za_x 46 (.ireturn) 39 l st w := za_n.at zcc_46 dX5_readNumbers_39 rfl
theorem f_46_40 (l : za_L) (st : List Value) (w : za_W) : za_n 46 (40, l, st, w) = za_x 46 (.aload_n 0) 40 l st w := za_n.at zcc_46 dX5_readNumbers_40 rfl
theorem f_46_41 (l : za_L) (st : List Value) (w : za_W) : za_n 46 (41, l, st, w) = za_x 46 (.getfield 25) 41 l st w := za_n.at zcc_46 dX5_readNumbers_41 rfl
theorem f_46_44 (l : za_L) (st : List Value) (w : za_W) : za_n 46 (44, l, st, w) = za_x 46 (.aload_n 1) 44 l st w := za_n.at zcc_46 dX5_readNumbers_44 rfl
theorem f_46_45 (l : za_L) (st : List Value) (w : za_W) : za_n 46 (45, l, st, w) = za_x 46 (.iload 5) 45 l st w := za_n.at zcc_46 dX5_readNumbers_45 rfl
theorem f_46_47 (l : za_L) (st : List Value) (w : za_W) : za_n 46 (47, l, st, w) = za_go 49 l (.int (50) :: st) w := (za_n.at zcc_46 dX5_readNumbers_47 rfl).trans (congrArg (fun x => za_go 49 l (.int x :: st) w) (by decide))
theorem f_46_49 (l : za_L) (st : List Value) (w : za_W) : za_n 46 (49, l, st, w) = za_x 46 (.idiv) 49 l st w := za_n.at zcc_46 dX5_readNumbers_49 rfl
theorem f_46_50 (l : za_L) (st : List Value) (w : za_W) : za_n 46 (50, l, st, w) = za_x 46 (.invokevirtual 217) 50 l st w := za_n.at zcc_46 dX5_readNumbers_50 rfl
theorem f_46_53 (l : za_L) (st : List Value) (w : za_W) : za_n 46 (53, l, st, w) = za_x 46 (.aaload) 53 l st w := za_n.at zcc_46 dX5_readNumbers_53 rfl
theorem f_46_54 (l : za_L) (st : List Value) (w : za_W) : za_n 46 (54, l, st, w) = za_x 46 (.aload_n 0) 54 l st w := za_n.at zcc_46 dX5_readNumbers_54 rfl
theorem f_46_55 (l : za_L) (st : List Value) (w : za_W) : za_n 46 (55, l, st, w) = za_x 46 (.getfield 53) 55 l st w := za_n.at zcc_46 dX5_readNumbers_55 rfl
theorem f_46_58 (l : za_L) (st : List Value) (w : za_W) : za_n 46 (58, l, st, w) = za_x 46 (.invokevirtual 220) 58 l st w := za_n.at zcc_46 dX5_readNumbers_58 rfl
theorem f_46_61 (l : za_L) (st : List Value) (w : za_W) : za_n 46 (61, l, st, w) = za_x 46 (.istore 6) 61 l st w := za_n.at zcc_46 dX5_readNumbers_61 rfl
theorem f_46_63 (l : za_L) (st : List Value) (w : za_W) : za_n 46 (63, l, st, w) = za_x 46 (.iload 6) 63 l st w := za_n.at zcc_46 dX5_readNumbers_63 rfl
theorem f_46_65 (l : za_L) (st : List Value) (w : za_W) : za_n 46 (65, l, st, w) = za_x 46 (.ifCond .ge 20) 65 l st w := za_n.at zcc_46 dX5_readNumbers_65 rfl
theorem f_46_68 (l : za_L) (st : List Value) (w : za_W) : za_n 46 (68, l, st, w) = za_x 46 (.aload_n 0) 68 l st w := za_n.at zcc_46 dX5_readNumbers_68 rfl
theorem f_46_69 (l : za_L) (st : List Value) (w : za_W) : za_n 46 (69, l, st, w) = za_x 46 (.iload 6) 69 l st w := za_n.at zcc_46 dX5_readNumbers_69 rfl
theorem f_46_71 (l : za_L) (st : List Value) (w : za_W) : za_n 46 (71, l, st, w) = za_go 72 l (.int (-1) :: st) w := (za_n.at zcc_46 dX5_readNumbers_71 rfl).trans (congrArg (fun x => za_go 72 l (.int x :: st) w) (by decide))
theorem f_46_72 (l : za_L) (st : List Value) (w : za_W) : za_n 46 (72, l, st, w) = za_x 46 (.if_icmp .ne 7) 72 l st w := za_n.at zcc_46 dX5_readNumbers_72 rfl
theorem f_46_75 (l : za_L) (st : List Value) (w : za_W) : za_n 46 (75, l, st, w) = za_go 76 l (.int (1) :: st) w := (za_n.at zcc_46 dX5_readNumbers_75 rfl).trans (congrArg (fun x => za_go 76 l (.int x :: st) w) (by decide))
theorem f_46_76 (l : za_L) (st : List Value) (w : za_W) : za_n 46 (76, l, st, w) = za_go 81 l st w := (za_n.at zcc_46 dX5_readNumbers_76 rfl).trans (za_jp.at (by decide))
theorem f_46_79 (l : za_L) (st : List Value) (w : za_W) : za_n 46 (79, l, st, w) = za_go 81 l (.int (8) :: st) w := (za_n.at zcc_46 dX5_readNumbers_79 rfl).trans (congrArg (fun x => za_go 81 l (.int x :: st) w) (by decide))
theorem f_46_81 (l : za_L) (st : List Value) (w : za_W) : za_n 46 (81, l, st, w) = za_x 46 (.invokevirtual 105) 81 l st w := za_n.at zcc_46 dX5_readNumbers_81 rfl
theorem f_46_84 (l : za_L) (st : List Value) (w : za_W) : za_n 46 (84, l, st, w) = za_x 46 (.ireturn) 84 l st w := za_n.at zcc_46 dX5_readNumbers_84 rfl
theorem f_46_85 (l : za_L) (st : List Value) (w : za_W) : za_n 46 (85, l, st, w) = za_x 46 (.iload 6) 85 l st w := za_n.at zcc_46 dX5_readNumbers_85 rfl
theorem f_46_87 (l : za_L) (st : List Value) (w : za_W) : za_n 46 (87, l, st, w) = za_go 88 l (.int (1) :: st) w := (za_n.at zcc_46 dX5_readNumbers_87 rfl).trans (congrArg (fun x => za_go 88 l (.int x :: st) w) (by decide))
theorem f_46_88 (l : za_L) (st : List Value) (w : za_W) : za_n 46 (88, l, st, w) = za_x 46 (.if_icmp .gt 36) 88 l st w := za_n.at zcc_46 dX5_readNumbers_88 rfl
theorem f_46_91 (l : za_L) (st : List Value) (w : za_W) : za_n 46 (91, l, st, w) = za_x 46 (.iload_n 3) 91 l st w := za_n.at zcc_46 dX5_readNumbers_91 rfl
theorem f_46_92 (l : za_L) (st : List Value) (w : za_W) : za_n 46 (92, l, st, w) = za_x 46 (.iload 6) 92 l st w := za_n.at zcc_46 dX5_readNumbers_92 rfl
theorem f_46_94 (l : za_L) (st : List Value) (w : za_W) : za_n 46 (94, l, st, w) = za_go 95 l (.int (1) :: st) w := (za_n.at zcc_46 dX5_readNumbers_94 rfl).trans (congrArg (fun x => za_go 95 l (.int x :: st) w) (by decide))
theorem f_46_95 (l : za_L) (st : List Value) (w : za_W) : za_n 46 (95, l, st, w) = za_x 46 (.iadd) 95 l st w := za_n.at zcc_46 dX5_readNumbers_95 rfl
theorem f_46_96 (l : za_L) (st : List Value) (w : za_W) : za_n 46 (96, l, st, w) = za_x 46 (.iload 4) 96 l st w := za_n.at zcc_46 dX5_readNumbers_96 rfl
theorem f_46_98 (l : za_L) (st : List Value) (w : za_W) : za_n 46 (98, l, st, w) = za_x 46 (.imul) 98 l st w := za_n.at zcc_46 dX5_readNumbers_98 rfl
theorem f_46_99 (l : za_L) (st : List Value) (w : za_W) : za_n 46 (99, l, st, w) = za_x 46 (.iadd) 99 l st w := za_n.at zcc_46 dX5_readNumbers_99 rfl
theorem f_46_100 (l : za_L) (st : List Value) (w : za_W) : za_n 46 (100, l, st, w) = za_x 46 (.istore_n 3) 100 l st w := za_n.at zcc_46 dX5_readNumbers_100 rfl
theorem f_46_101 (l : za_L) (st : List Value) (w : za_W) : za_n 46 (101, l, st, w) = za_x 46 (.iload 4) 101 l st w := za_n.at zcc_46 dX5_readNumbers_101 rfl
theorem f_46_103 (l : za_L) (st : List Value) (w : za_W) : za_n 46 (103, l, st, w) = za_go 104 l (.int (2) :: st) w := (za_n.at zcc_46 dX5_readNumbers_103 rfl).trans (congrArg (fun x => za_go 104 l (.int x :: st) w) (by decide))
theorem f_46_104 (l : za_L) (st : List Value) (w : za_W) : za_n 46 (104, l, st, w) = za_x 46 (.imul) 104 l st w := za_n.at zcc_46 dX5_readNumbers_104 rfl
theorem f_46_105 (l : za_L) (st : List Value) (w : za_W) : za_n 46 (105, l, st, w) = za_x 46 (.istore 4) 105 l st w := za_n.at zcc_46 dX5_readNumbers_105 rfl
theorem f_46_107 (l : za_L) (st : List Value) (w : za_W) : za_n 46 (107, l, st, w) = za_x 46 (.iload_n 3) 107 l st w := za_n.at zcc_46 dX5_readNumbers_107 rfl
theorem f_46_108 (l : za_L) (st : List Value) (w : za_W) : za_n 46 (108, l, st, w) = za_x 46 (.iload_n 2) 108 l st w := za_n.at zcc_46 dX5_readNumbers_108 rfl
theorem f_46_109 (l : za_L) (st : List Value) (w : za_W) : za_n 46 (109, l, st, w) = za_x 46 (.aload_n 0) 109 l st w := za_n.at zcc_46 dX5_readNumbers_109 rfl
theorem f_46_110 (l : za_L) (st : List Value) (w : za_W) : za_n 46 (110, l, st, w) = za_x 46 (.getfield 216) 110 l st w := za_n.at zcc_46 dX5_readNumbers_110 rfl
theorem f_46_113 (l : za_L) (st : List Value) (w : za_W) : za_n 46 (113, l, st, w) = za_x 46 (.isub) 113 l st w := za_n.at zcc_46 dX5_readNumbers_113 rfl
theorem f_46_114 (l : za_L) (st : List Value) (w : za_W) : za_n 46 (114, l, st, w) = za_x 46 (.if_icmp .le 91) 114 l st w := za_n.at zcc_46 dX5_readNumbers_114 rfl
theorem f_46_117 (l : za_L) (st : List Value) (w : za_W) : za_n 46 (117, l, st, w) = za_x 46 (.aload_n 0) 117 l st w := za_n.at zcc_46 dX5_readNumbers_117 rfl
theorem f_46_118 (l : za_L) (st : List Value) (w : za_W) : za_n 46 (118, l, st, w) = za_go 120 l (.int (8) :: st) w := (za_n.at zcc_46 dX5_readNumbers_118 rfl).trans (congrArg (fun x => za_go 120 l (.int x :: st) w) (by decide))
theorem f_46_120 (l : za_L) (st : List Value) (w : za_W) : za_n 46 (120, l, st, w) = za_x 46 (.invokevirtual 105) 120 l st w := za_n.at zcc_46 dX5_readNumbers_120 rfl
theorem f_46_123 (l : za_L) (st : List Value) (w : za_W) : za_n 46 (123, l, st, w) = za_x 46 (.ireturn) 123 l st w := za_n.at zcc_46 dX5_readNumbers_123 rfl
theorem f_46_124 (l : za_L) (st : List Value) (w : za_W) : za_n 46 (124, l, st, w) = za_x 46 (.aload_n 0) 124 l st w := za_n.at zcc_46 dX5_readNumbers_124 rfl
theorem f_46_125 (l : za_L) (st : List Value) (w : za_W) : za_n 46 (125, l, st, w) = za_x 46 (.aload_n 0) 125 l st w := za_n.at zcc_46 dX5_readNumbers_125 rfl
theorem f_46_126 (l : za_L) (st : List Value) (w : za_W) : za_n 46 (126, l, st, w) = za_x 46 (.getfield 14) 126 l st w := za_n.at zcc_46 dX5_readNumbers_126 rfl
theorem f_46_129 (l : za_L) (st : List Value) (w : za_W) : za_n 46 (129, l, st, w) = za_x 46 (.invokevirtual 224) 129 l st w := za_n.at zcc_46 dX5_readNumbers_129 rfl
theorem f_46_132 (l : za_L) (st : List Value) (w : za_W) : za_n 46 (132, l, st, w) = za_x 46 (.iload_n 3) 132 l st w := za_n.at zcc_46 dX5_readNumbers_132 rfl
theorem f_46_133 (l : za_L) (st : List Value) (w : za_W) : za_n 46 (133, l, st, w) = za_x 46 (.iload_n 2) 133 l st w := za_n.at zcc_46 dX5_readNumbers_133 rfl
theorem f_46_134 (l : za_L) (st : List Value) (w : za_W) : za_n 46 (134, l, st, w) = za_x 46 (.invokevirtual 227) 134 l st w := za_n.at zcc_46 dX5_readNumbers_134 rfl
theorem f_46_137 (l : za_L) (st : List Value) (w : za_W) : za_n 46 (137, l, st, w) = za_x 46 (.ifCond .ne 10) 137 l st w := za_n.at zcc_46 dX5_readNumbers_137 rfl
theorem f_46_140 (l : za_L) (st : List Value) (w : za_W) : za_n 46 (140, l, st, w) = za_x 46 (.aload_n 0) 140 l st w := za_n.at zcc_46 dX5_readNumbers_140 rfl
theorem f_46_141 (l : za_L) (st : List Value) (w : za_W) : za_n 46 (141, l, st, w) = za_go 143 l (.int (8) :: st) w := (za_n.at zcc_46 dX5_readNumbers_141 rfl).trans (congrArg (fun x => za_go 143 l (.int x :: st) w) (by decide))
theorem f_46_143 (l : za_L) (st : List Value) (w : za_W) : za_n 46 (143, l, st, w) = za_x 46 (.invokevirtual 105) 143 l st w := za_n.at zcc_46 dX5_readNumbers_143 rfl
theorem f_46_146 (l : za_L) (st : List Value) (w : za_W) : za_n 46 (146, l, st, w) = za_x 46 (.ireturn) 146 l st w := za_n.at zcc_46 dX5_readNumbers_146 rfl
theorem f_46_147 (l : za_L) (st : List Value) (w : za_W) : za_n 46 (147, l, st, w) = za_go 148 l (.int (0) :: st) w := (za_n.at zcc_46 dX5_readNumbers_147 rfl).trans (congrArg (fun x => za_go 148 l (.int x :: st) w) (by decide))
theorem f_46_148 (l : za_L) (st : List Value) (w : za_W) : za_n 46 (148, l, st, w) = za_x 46 (.istore_n 3) 148 l st w := za_n.at zcc_46 dX5_readNumbers_148 rfl
theorem f_46_149 (l : za_L) (st : List Value) (w : za_W) : za_n 46 (149, l, st, w) = za_go 150 l (.int (1) :: st) w := (za_n.at zcc_46 dX5_readNumbers_149 rfl).trans (congrArg (fun x => za_go 150 l (.int x :: st) w) (by decide))
theorem f_46_150 (l : za_L) (st : List Value) (w : za_W) : za_n 46 (150, l, st, w) = za_x 46 (.istore 4) 150 l st w := za_n.at zcc_46 dX5_readNumbers_150 rfl
theorem f_46_152 (l : za_L) (st : List Value) (w : za_W) : za_n 46 (152, l, st, w) = za_x 46 (.iload 6) 152 l st w := za_n.at zcc_46 dX5_readNumbers_152 rfl
theorem f_46_154 (l : za_L) (st : List Value) (w : za_W) : za_n 46 (154, l, st, w) = za_x 46 (.aload_n 1) 154 l st w := za_n.at zcc_46 dX5_readNumbers_154 rfl
theorem f_46_155 (l : za_L) (st : List Value) (w : za_W) : za_n 46 (155, l, st, w) = za_x 46 (.getfield 180) 155 l st w := za_n.at zcc_46 dX5_readNumbers_155 rfl
theorem f_46_158 (l : za_L) (st : List Value) (w : za_W) : za_n 46 (158, l, st, w) = za_go 159 l (.int (1) :: st) w := (za_n.at zcc_46 dX5_readNumbers_158 rfl).trans (congrArg (fun x => za_go 159 l (.int x :: st) w) (by decide))
theorem f_46_159 (l : za_L) (st : List Value) (w : za_W) : za_n 46 (159, l, st, w) = za_x 46 (.isub) 159 l st w := za_n.at zcc_46 dX5_readNumbers_159 rfl
theorem f_46_160 (l : za_L) (st : List Value) (w : za_W) : za_n 46 (160, l, st, w) = za_x 46 (.if_icmp .ne 18) 160 l st w := za_n.at zcc_46 dX5_readNumbers_160 rfl
theorem f_46_163 (l : za_L) (st : List Value) (w : za_W) : za_n 46 (163, l, st, w) = za_x 46 (.aload_n 0) 163 l st w := za_n.at zcc_46 dX5_readNumbers_163 rfl
theorem f_46_164 (l : za_L) (st : List Value) (w : za_W) : za_n 46 (164, l, st, w) = za_x 46 (.getfield 40) 164 l st w := za_n.at zcc_46 dX5_readNumbers_164 rfl
theorem f_46_167 (l : za_L) (st : List Value) (w : za_W) : za_n 46 (167, l, st, w) = za_go 169 l (.int (8) :: st) w := (za_n.at zcc_46 dX5_readNumbers_167 rfl).trans (congrArg (fun x => za_go 169 l (.int x :: st) w) (by decide))
theorem f_46_169 (l : za_L) (st : List Value) (w : za_W) : za_n 46 (169, l, st, w) = za_x 46 (.iload 5) 169 l st w := za_n.at zcc_46 dX5_readNumbers_169 rfl
theorem f_46_171 (l : za_L) (st : List Value) (w : za_W) : za_n 46 (171, l, st, w) = za_go 172 l (.int (1) :: st) w := (za_n.at zcc_46 dX5_readNumbers_171 rfl).trans (congrArg (fun x => za_go 172 l (.int x :: st) w) (by decide))
theorem f_46_172 (l : za_L) (st : List Value) (w : za_W) : za_n 46 (172, l, st, w) = za_x 46 (.iadd) 172 l st w := za_n.at zcc_46 dX5_readNumbers_172 rfl
theorem f_46_173 (l : za_L) (st : List Value) (w : za_W) : za_n 46 (173, l, st, w) = za_x 46 (.invokevirtual 115) 173 l st w := za_n.at zcc_46 dX5_readNumbers_173 rfl
theorem f_46_176 (l : za_L) (st : List Value) (w : za_W) : za_n 46 (176, l, st, w) = za_go 177 l (.int (1) :: st) w := (za_n.at zcc_46 dX5_readNumbers_176 rfl).trans (congrArg (fun x => za_go 177 l (.int x :: st) w) (by decide))
theorem f_46_177 (l : za_L) (st : List Value) (w : za_W) : za_n 46 (177, l, st, w) = za_x 46 (.ireturn) 177 l st w := za_n.at zcc_46 dX5_readNumbers_177 rfl
theorem f_46_178 (l : za_L) (st : List Value) (w : za_W) : za_n 46 (178, l, st, w) = za_x 46 (.aload_n 0) 178 l st w := za_n.at zcc_46 dX5_readNumbers_178 rfl
theorem f_46_179 (l : za_L) (st : List Value) (w : za_W) : za_n 46 (179, l, st, w) = za_x 46 (.aload_n 0) 179 l st w := za_n.at zcc_46 dX5_readNumbers_179 rfl
theorem f_46_180 (l : za_L) (st : List Value) (w : za_W) : za_n 46 (180, l, st, w) = za_x 46 (.getfield 14) 180 l st w := za_n.at zcc_46 dX5_readNumbers_180 rfl
theorem f_46_183 (l : za_L) (st : List Value) (w : za_W) : za_n 46 (183, l, st, w) = za_x 46 (.iload 6) 183 l st w := za_n.at zcc_46 dX5_readNumbers_183 rfl
theorem f_46_185 (l : za_L) (st : List Value) (w : za_W) : za_n 46 (185, l, st, w) = za_go 186 l (.int (1) :: st) w := (za_n.at zcc_46 dX5_readNumbers_185 rfl).trans (congrArg (fun x => za_go 186 l (.int x :: st) w) (by decide))
theorem f_46_186 (l : za_L) (st : List Value) (w : za_W) : za_n 46 (186, l, st, w) = za_x 46 (.isub) 186 l st w := za_n.at zcc_46 dX5_readNumbers_186 rfl
theorem f_46_187 (l : za_L) (st : List Value) (w : za_W) : za_n 46 (187, l, st, w) = za_x 46 (.invokevirtual 195) 187 l st w := za_n.at zcc_46 dX5_readNumbers_187 rfl
theorem f_46_190 (l : za_L) (st : List Value) (w : za_W) : za_n 46 (190, l, st, w) = za_go 191 l (.int (1) :: st) w := (za_n.at zcc_46 dX5_readNumbers_190 rfl).trans (congrArg (fun x => za_go 191 l (.int x :: st) w) (by decide))
theorem f_46_191 (l : za_L) (st : List Value) (w : za_W) : za_n 46 (191, l, st, w) = za_x 46 (.iload_n 2) 191 l st w := za_n.at zcc_46 dX5_readNumbers_191 rfl
theorem f_46_192 (l : za_L) (st : List Value) (w : za_W) : za_n 46 (192, l, st, w) = za_x 46 (.invokevirtual 227) 192 l st w := za_n.at zcc_46 dX5_readNumbers_192 rfl
theorem f_46_195 (l : za_L) (st : List Value) (w : za_W) : za_n 46 (195, l, st, w) = za_x 46 (.ifCond .ne 10) 195 l st w := za_n.at zcc_46 dX5_readNumbers_195 rfl
theorem f_46_198 (l : za_L) (st : List Value) (w : za_W) : za_n 46 (198, l, st, w) = za_x 46 (.aload_n 0) 198 l st w := za_n.at zcc_46 dX5_readNumbers_198 rfl
theorem f_46_199 (l : za_L) (st : List Value) (w : za_W) : za_n 46 (199, l, st, w) = za_go 201 l (.int (8) :: st) w := (za_n.at zcc_46 dX5_readNumbers_199 rfl).trans (congrArg (fun x => za_go 201 l (.int x :: st) w) (by decide))
theorem f_46_201 (l : za_L) (st : List Value) (w : za_W) : za_n 46 (201, l, st, w) = za_x 46 (.invokevirtual 105) 201 l st w := za_n.at zcc_46 dX5_readNumbers_201 rfl
theorem f_46_204 (l : za_L) (st : List Value) (w : za_W) : za_n 46 (204, l, st, w) = za_x 46 (.ireturn) 204 l st w := za_n.at zcc_46 dX5_readNumbers_204 rfl
theorem f_46_205 (l : za_L) (st : List Value) (w : za_W) : za_n 46 (205, l, st, w) = za_x 46 (.iinc 5 1) 205 l st w := za_n.at zcc_46 dX5_readNumbers_205 rfl
theorem f_46_208 (l : za_L) (st : List Value) (w : za_W) : za_n 46 (208, l, st, w) = za_go 13 l st w := (za_n.at zcc_46 dX5_readNumbers_208 rfl).trans (za_jp.at (by decide))
theorem f_46_211 (l : za_L) (st : List Value) (w : za_W) : za_n 46 (211, l, st, w) = za_x 46 (.aload_n 0) 211 l st w := za_n.at zcc_46 dX5_readNumbers_211 rfl
theorem f_46_212 (l : za_L) (st : List Value) (w : za_W) : za_n 46 (212, l, st, w) = za_go 213 l (.int (1) :: st) w := (za_n.at zcc_46 dX5_readNumbers_212 rfl).trans (congrArg (fun x => za_go 213 l (.int x :: st) w) (by decide))
theorem f_46_213 (l : za_L) (st : List Value) (w : za_W) : za_n 46 (213, l, st, w) = za_x 46 (.invokevirtual 105) 213 l st w := za_n.at zcc_46 dX5_readNumbers_213 rfl
theorem f_46_216 (l : za_L) (st : List Value) (w : za_W) : za_n 46 (216, l, st, w) = za_x 46 (.ireturn) 216 l st w := za_n.at zcc_46 dX5_readNumbers_216 rfl
theorem f_47_0 (l : za_L) (st : List Value) (w : za_W) : za_n 47 (0, l, st, w) = za_x 47 (.iload_n 2) 0 l st w := za_n.at zcc_47 dX5_addLast_0 rfl
theorem f_47_1 (l : za_L) (st : List Value) (w : za_W) : za_n 47 (1, l, st, w) = za_x 47 (.iload_n 3) 1 l st w := za_n.at zcc_47 dX5_addLast_1 rfl
theorem f_47_2 (l : za_L) (st : List Value) (w : za_W) : za_n 47 (2, l, st, w) = za_x 47 (.aload_n 0) 2 l st w := za_n.at zcc_47 dX5_addLast_2 rfl
theorem f_47_3 (l : za_L) (st : List Value) (w : za_W) : za_n 47 (3, l, st, w) = za_x 47 (.getfield 216) 3 l st w := za_n.at zcc_47 dX5_addLast_3 rfl
theorem f_47_6 (l : za_L) (st : List Value) (w : za_W) : za_n 47 (6, l, st, w) = za_x 47 (.isub) 6 l st w := za_n.at zcc_47 dX5_addLast_6 rfl
theorem f_47_7 (l : za_L) (st : List Value) (w : za_W) : za_n 47 (7, l, st, w) = za_x 47 (.if_icmp .gt 17) 7 l st w := za_n.at zcc_47 dX5_addLast_7 rfl
theorem f_47_10 (l : za_L) (st : List Value) (w : za_W) : za_n 47 (10, l, st, w) = za_x 47 (.iload_n 2) 10 l st w := za_n.at zcc_47 dX5_addLast_10 rfl
theorem f_47_11 (l : za_L) (st : List Value) (w : za_W) : za_n 47 (11, l, st, w) = za_x 47 (.aload_n 0) 11 l st w := za_n.at zcc_47 dX5_addLast_11 rfl
theorem f_47_12 (l : za_L) (st : List Value) (w : za_W) : za_n 47 (12, l, st, w) = za_x 47 (.getfield 29) 12 l st w := za_n.at zcc_47 dX5_addLast_12 rfl
theorem f_47_15 (l : za_L) (st : List Value) (w : za_W) : za_n 47 (15, l, st, w) = za_x 47 (.arraylength) 15 l st w := za_n.at zcc_47 dX5_addLast_15 rfl
theorem f_47_16 (l : za_L) (st : List Value) (w : za_W) : za_n 47 (16, l, st, w) = za_x 47 (.aload_n 0) 16 l st w := za_n.at zcc_47 dX5_addLast_16 rfl
theorem f_47_17 (l : za_L) (st : List Value) (w : za_W) : za_n 47 (17, l, st, w) = za_x 47 (.getfield 216) 17 l st w := za_n.at zcc_47 dX5_addLast_17 rfl
theorem f_47_20 (l : za_L) (st : List Value) (w : za_W) : za_n 47 (20, l, st, w) = za_x 47 (.isub) 20 l st w := za_n.at zcc_47 dX5_addLast_20 rfl
theorem f_47_21 (l : za_L) (st : List Value) (w : za_W) : za_n 47 (21, l, st, w) = za_x 47 (.if_icmp .le 5) 21 l st w := za_n.at zcc_47 dX5_addLast_21 rfl
theorem f_47_24 (l : za_L) (st : List Value) (w : za_W) : za_n 47 (24, l, st, w) = za_go 25 l (.int (0) :: st) w := (za_n.at zcc_47 dX5_addLast_24 rfl).trans (congrArg (fun x => za_go 25 l (.int x :: st) w) (by decide))
theorem f_47_25 (l : za_L) (st : List Value) (w : za_W) : za_n 47 (25, l, st, w) = za_x 47 (.ireturn) 25 l st w := za_n.at zcc_47 dX5_addLast_25 rfl
theorem f_47_26 (l : za_L) (st : List Value) (w : za_W) : za_n 47 (26, l, st, w) = za_go 27 l (.int (0) :: st) w := (za_n.at zcc_47 dX5_addLast_26 rfl).trans (congrArg (fun x => za_go 27 l (.int x :: st) w) (by decide))
theorem f_47_27 (l : za_L) (st : List Value) (w : za_W) : za_n 47 (27, l, st, w) = za_x 47 (.istore 4) 27 l st w := za_n.at zcc_47 dX5_addLast_27 rfl
theorem f_47_29 (l : za_L) (st : List Value) (w : za_W) : za_n 47 (29, l, st, w) = za_x 47 (.iload 4) 29 l st w := za_n.at zcc_47 dX5_addLast_29 rfl
theorem f_47_31 (l : za_L) (st : List Value) (w : za_W) : za_n 47 (31, l, st, w) = za_x 47 (.iload_n 2) 31 l st w := za_n.at zcc_47 dX5_addLast_31 rfl
theorem f_47_32 (l : za_L) (st : List Value) (w : za_W) : za_n 47 (32, l, st, w) = za_x 47 (.if_icmp .ge 30) 32 l st w := za_n.at zcc_47 dX5_addLast_32 rfl
theorem f_47_35 (l : za_L) (st : List Value) (w : za_W) : za_n 47 (35, l, st, w) = za_x 47 (.aload_n 0) 35 l st w := za_n.at zcc_47 dX5_addLast_35 rfl
theorem f_47_36 (l : za_L) (st : List Value) (w : za_W) : za_n 47 (36, l, st, w) = za_x 47 (.getfield 29) 36 l st w := za_n.at zcc_47 dX5_addLast_36 rfl
theorem f_47_39 (l : za_L) (st : List Value) (w : za_W) : za_n 47 (39, l, st, w) = za_x 47 (.aload_n 0) 39 l st w := za_n.at zcc_47 dX5_addLast_39 rfl
theorem f_47_40 (l : za_L) (st : List Value) (w : za_W) : za_n 47 (40, l, st, w) = za_x 47 (.getfield 216) 40 l st w := za_n.at zcc_47 dX5_addLast_40 rfl
theorem f_47_43 (l : za_L) (st : List Value) (w : za_W) : za_n 47 (43, l, st, w) = za_x 47 (.iload_n 1) 43 l st w := za_n.at zcc_47 dX5_addLast_43 rfl
theorem f_47_44 (l : za_L) (st : List Value) (w : za_W) : za_n 47 (44, l, st, w) = za_x 47 (.i2b) 44 l st w := za_n.at zcc_47 dX5_addLast_44 rfl
theorem f_47_45 (l : za_L) (st : List Value) (w : za_W) : za_n 47 (45, l, st, w) = za_x 47 (.bastore) 45 l st w := za_n.at zcc_47 dX5_addLast_45 rfl
theorem f_47_46 (l : za_L) (st : List Value) (w : za_W) : za_n 47 (46, l, st, w) = za_x 47 (.aload_n 0) 46 l st w := za_n.at zcc_47 dX5_addLast_46 rfl
theorem f_47_47 (l : za_L) (st : List Value) (w : za_W) : za_n 47 (47, l, st, w) = za_x 47 (.dup) 47 l st w := za_n.at zcc_47 dX5_addLast_47 rfl
theorem f_47_48 (l : za_L) (st : List Value) (w : za_W) : za_n 47 (48, l, st, w) = za_x 47 (.getfield 216) 48 l st w := za_n.at zcc_47 dX5_addLast_48 rfl
theorem f_47_51 (l : za_L) (st : List Value) (w : za_W) : za_n 47 (51, l, st, w) = za_go 52 l (.int (1) :: st) w := (za_n.at zcc_47 dX5_addLast_51 rfl).trans (congrArg (fun x => za_go 52 l (.int x :: st) w) (by decide))
theorem f_47_52 (l : za_L) (st : List Value) (w : za_W) : za_n 47 (52, l, st, w) = za_x 47 (.iadd) 52 l st w := za_n.at zcc_47 dX5_addLast_52 rfl
theorem f_47_53 (l : za_L) (st : List Value) (w : za_W) : za_n 47 (53, l, st, w) = za_x 47 (.putfield 216) 53 l st w := za_n.at zcc_47 dX5_addLast_53 rfl
theorem f_47_56 (l : za_L) (st : List Value) (w : za_W) : za_n 47 (56, l, st, w) = za_x 47 (.iinc 4 1) 56 l st w := za_n.at zcc_47 dX5_addLast_56 rfl
theorem f_47_59 (l : za_L) (st : List Value) (w : za_W) : za_n 47 (59, l, st, w) = za_go 29 l st w := (za_n.at zcc_47 dX5_addLast_59 rfl).trans (za_jp.at (by decide))
theorem f_47_62 (l : za_L) (st : List Value) (w : za_W) : za_n 47 (62, l, st, w) = za_go 63 l (.int (1) :: st) w := (za_n.at zcc_47 dX5_addLast_62 rfl).trans (congrArg (fun x => za_go 63 l (.int x :: st) w) (by decide))
theorem f_47_63 (l : za_L) (st : List Value) (w : za_W) : za_n 47 (63, l, st, w) = za_x 47 (.ireturn) 63 l st w := za_n.at zcc_47 dX5_addLast_63 rfl
theorem f_48_0 (l : za_L) (st : List Value) (w : za_W) : za_n 48 (0, l, st, w) = za_x 48 (.aload_n 0) 0 l st w := za_n.at zcc_48 dX5_turnBlockBack_0 rfl
theorem f_48_1 (l : za_L) (st : List Value) (w : za_W) : za_n 48 (1, l, st, w) = za_x 48 (.getfield 40) 1 l st w := za_n.at zcc_48 dX5_turnBlockBack_1 rfl
theorem f_48_4 (l : za_L) (st : List Value) (w : za_W) : za_n 48 (4, l, st, w) = za_go 5 l (.int (2) :: st) w := (za_n.at zcc_48 dX5_turnBlockBack_4 rfl).trans (congrArg (fun x => za_go 5 l (.int x :: st) w) (by decide))
theorem f_48_5 (l : za_L) (st : List Value) (w : za_W) : za_n 48 (5, l, st, w) = za_x 48 (.aload_n 0) 5 l st w := za_n.at zcc_48 dX5_turnBlockBack_5 rfl
theorem f_48_6 (l : za_L) (st : List Value) (w : za_W) : za_n 48 (6, l, st, w) = za_x 48 (.getfield 216) 6 l st w := za_n.at zcc_48 dX5_turnBlockBack_6 rfl
theorem f_48_9 (l : za_L) (st : List Value) (w : za_W) : za_n 48 (9, l, st, w) = za_x 48 (.invokevirtual 115) 9 l st w := za_n.at zcc_48 dX5_turnBlockBack_9 rfl
theorem f_48_12 (l : za_L) (st : List Value) (w : za_W) : za_n 48 (12, l, st, w) = za_x 48 (.aload_n 0) 12 l st w := za_n.at zcc_48 dX5_turnBlockBack_12 rfl
theorem f_48_13 (l : za_L) (st : List Value) (w : za_W) : za_n 48 (13, l, st, w) = za_x 48 (.getfield 168) 13 l st w := za_n.at zcc_48 dX5_turnBlockBack_13 rfl
theorem f_48_16 (l : za_L) (st : List Value) (w : za_W) : za_n 48 (16, l, st, w) = za_x 48 (.aload_n 0) 16 l st w := za_n.at zcc_48 dX5_turnBlockBack_16 rfl
theorem f_48_17 (l : za_L) (st : List Value) (w : za_W) : za_n 48 (17, l, st, w) = za_x 48 (.getfield 216) 17 l st w := za_n.at zcc_48 dX5_turnBlockBack_17 rfl
theorem f_48_20 (l : za_L) (st : List Value) (w : za_W) : za_n 48 (20, l, st, w) = za_x 48 (.if_icmp .lt 10) 20 l st w := za_n.at zcc_48 dX5_turnBlockBack_20 rfl
theorem f_48_23 (l : za_L) (st : List Value) (w : za_W) : za_n 48 (23, l, st, w) = za_x 48 (.aload_n 0) 23 l st w := za_n.at zcc_48 dX5_turnBlockBack_23 rfl
theorem f_48_24 (l : za_L) (st : List Value) (w : za_W) : za_n 48 (24, l, st, w) = za_go 26 l (.int (9) :: st) w := (za_n.at zcc_48 dX5_turnBlockBack_24 rfl).trans (congrArg (fun x => za_go 26 l (.int x :: st) w) (by decide))
theorem f_48_26 (l : za_L) (st : List Value) (w : za_W) : za_n 48 (26, l, st, w) = za_x 48 (.invokevirtual 105) 26 l st w := za_n.at zcc_48 dX5_turnBlockBack_26 rfl
theorem f_48_29 (l : za_L) (st : List Value) (w : za_W) : za_n 48 (29, l, st, w) = za_x 48 (.ireturn) 29 l st w := za_n.at zcc_48 dX5_turnBlockBack_29 rfl
theorem f_48_30 (l : za_L) (st : List Value) (w : za_W) : za_n 48 (30, l, st, w) = za_x 48 (.aload_n 0) 30 l st w := za_n.at zcc_48 dX5_turnBlockBack_30 rfl
theorem f_48_31 (l : za_L) (st : List Value) (w : za_W) : za_n 48 (31, l, st, w) = za_x 48 (.getfield 44) 31 l st w := za_n.at zcc_48 dX5_turnBlockBack_31 rfl
theorem f_48_34 (l : za_L) (st : List Value) (w : za_W) : za_n 48 (34, l, st, w) = za_x 48 (.aload_n 0) 34 l st w := za_n.at zcc_48 dX5_turnBlockBack_34 rfl
theorem f_48_35 (l : za_L) (st : List Value) (w : za_W) : za_n 48 (35, l, st, w) = za_x 48 (.getfield 29) 35 l st w := za_n.at zcc_48 dX5_turnBlockBack_35 rfl
theorem f_48_38 (l : za_L) (st : List Value) (w : za_W) : za_n 48 (38, l, st, w) = za_x 48 (.aload_n 0) 38 l st w := za_n.at zcc_48 dX5_turnBlockBack_38 rfl
theorem f_48_39 (l : za_L) (st : List Value) (w : za_W) : za_n 48 (39, l, st, w) = za_x 48 (.getfield 216) 39 l st w := za_n.at zcc_48 dX5_turnBlockBack_39 rfl
theorem f_48_42 (l : za_L) (st : List Value) (w : za_W) : za_n 48 (42, l, st, w) = za_x 48 (.aload_n 0) 42 l st w := za_n.at zcc_48 dX5_turnBlockBack_42 rfl
theorem f_48_43 (l : za_L) (st : List Value) (w : za_W) : za_n 48 (43, l, st, w) = za_x 48 (.getfield 168) 43 l st w := za_n.at zcc_48 dX5_turnBlockBack_43 rfl
theorem f_48_46 (l : za_L) (st : List Value) (w : za_W) : za_n 48 (46, l, st, w) = za_x 48 (.aload_n 0) 46 l st w := za_n.at zcc_48 dX5_turnBlockBack_46 rfl
theorem f_48_47 (l : za_L) (st : List Value) (w : za_W) : za_n 48 (47, l, st, w) = za_x 48 (.getfield 33) 47 l st w := za_n.at zcc_48 dX5_turnBlockBack_47 rfl
theorem f_48_50 (l : za_L) (st : List Value) (w : za_W) : za_n 48 (50, l, st, w) = za_x 48 (.invokevirtual 231) 50 l st w := za_n.at zcc_48 dX5_turnBlockBack_50 rfl
theorem f_48_53 (l : za_L) (st : List Value) (w : za_W) : za_n 48 (53, l, st, w) = za_go 54 l (.int (1) :: st) w := (za_n.at zcc_48 dX5_turnBlockBack_53 rfl).trans (congrArg (fun x => za_go 54 l (.int x :: st) w) (by decide))
theorem f_48_54 (l : za_L) (st : List Value) (w : za_W) : za_n 48 (54, l, st, w) = za_x 48 (.ireturn) 54 l st w := za_n.at zcc_48 dX5_turnBlockBack_54 rfl
theorem f_49_0 (l : za_L) (st : List Value) (w : za_W) : za_n 49 (0, l, st, w) = za_x 49 (.aload_n 0) 0 l st w := za_n.at zcc_49 dX5_writeOut_0 rfl
theorem f_49_1 (l : za_L) (st : List Value) (w : za_W) : za_n 49 (1, l, st, w) = za_x 49 (.invokevirtual 237) 1 l st w := za_n.at zcc_49 dX5_writeOut_1 rfl
theorem f_49_4 (l : za_L) (st : List Value) (w : za_W) : za_n 49 (4, l, st, w) = za_x 49 (.istore_n 1) 4 l st w := za_n.at zcc_49 dX5_writeOut_4 rfl
theorem f_49_5 (l : za_L) (st : List Value) (w : za_W) : za_n 49 (5, l, st, w) = za_x 49 (.iload_n 1) 5 l st w := za_n.at zcc_49 dX5_writeOut_5 rfl
theorem f_49_6 (l : za_L) (st : List Value) (w : za_W) : za_n 49 (6, l, st, w) = za_x 49 (.ifCond .ge 10) 6 l st w := za_n.at zcc_49 dX5_writeOut_6 rfl
theorem f_49_9 (l : za_L) (st : List Value) (w : za_W) : za_n 49 (9, l, st, w) = za_x 49 (.aload_n 0) 9 l st w := za_n.at zcc_49 dX5_writeOut_9 rfl
theorem f_49_10 (l : za_L) (st : List Value) (w : za_W) : za_n 49 (10, l, st, w) = za_go 12 l (.int (10) :: st) w := (za_n.at zcc_49 dX5_writeOut_10 rfl).trans (congrArg (fun x => za_go 12 l (.int x :: st) w) (by decide))
theorem f_49_12 (l : za_L) (st : List Value) (w : za_W) : za_n 49 (12, l, st, w) = za_x 49 (.invokevirtual 105) 12 l st w := za_n.at zcc_49 dX5_writeOut_12 rfl
theorem f_49_15 (l : za_L) (st : List Value) (w : za_W) : za_n 49 (15, l, st, w) = za_x 49 (.ireturn) 15 l st w := za_n.at zcc_49 dX5_writeOut_15 rfl
theorem f_49_16 (l : za_L) (st : List Value) (w : za_W) : za_n 49 (16, l, st, w) = za_x 49 (.aload_n 0) 16 l st w := za_n.at zcc_49 dX5_writeOut_16 rfl
theorem f_49_17 (l : za_L) (st : List Value) (w : za_W) : za_n 49 (17, l, st, w) = za_x 49 (.getfield 36) 17 l st w := za_n.at zcc_49 dX5_writeOut_17 rfl
theorem f_49_20 (l : za_L) (st : List Value) (w : za_W) : za_n 49 (20, l, st, w) = za_x 49 (.getfield 240) 20 l st w := za_n.at zcc_49 dX5_writeOut_20 rfl
theorem f_49_23 (l : za_L) (st : List Value) (w : za_W) : za_n 49 (23, l, st, w) = za_x 49 (.istore_n 2) 23 l st w := za_n.at zcc_49 dX5_writeOut_23 rfl
theorem f_49_24 (l : za_L) (st : List Value) (w : za_W) : za_n 49 (24, l, st, w) = za_x 49 (.iload_n 2) 24 l st w := za_n.at zcc_49 dX5_writeOut_24 rfl
theorem f_49_25 (l : za_L) (st : List Value) (w : za_W) : za_n 49 (25, l, st, w) = za_x 49 (.iload_n 1) 25 l st w := za_n.at zcc_49 dX5_writeOut_25 rfl
theorem f_49_26 (l : za_L) (st : List Value) (w : za_W) : za_n 49 (26, l, st, w) = za_x 49 (.iadd) 26 l st w := za_n.at zcc_49 dX5_writeOut_26 rfl
theorem f_49_27 (l : za_L) (st : List Value) (w : za_W) : za_n 49 (27, l, st, w) = za_go 30 l (.int (3000) :: st) w := (za_n.at zcc_49 dX5_writeOut_27 rfl).trans (congrArg (fun x => za_go 30 l (.int x :: st) w) (by decide))
theorem f_49_30 (l : za_L) (st : List Value) (w : za_W) : za_n 49 (30, l, st, w) = za_x 49 (.if_icmp .le 10) 30 l st w := za_n.at zcc_49 dX5_writeOut_30 rfl
theorem f_49_33 (l : za_L) (st : List Value) (w : za_W) : za_n 49 (33, l, st, w) = za_x 49 (.aload_n 0) 33 l st w := za_n.at zcc_49 dX5_writeOut_33 rfl
theorem f_49_34 (l : za_L) (st : List Value) (w : za_W) : za_n 49 (34, l, st, w) = za_go 36 l (.int (11) :: st) w := (za_n.at zcc_49 dX5_writeOut_34 rfl).trans (congrArg (fun x => za_go 36 l (.int x :: st) w) (by decide))
theorem f_49_36 (l : za_L) (st : List Value) (w : za_W) : za_n 49 (36, l, st, w) = za_x 49 (.invokevirtual 105) 36 l st w := za_n.at zcc_49 dX5_writeOut_36 rfl
theorem f_49_39 (l : za_L) (st : List Value) (w : za_W) : za_n 49 (39, l, st, w) = za_x 49 (.ireturn) 39 l st w := za_n.at zcc_49 dX5_writeOut_39 rfl
theorem f_49_40 (l : za_L) (st : List Value) (w : za_W) : za_n 49 (40, l, st, w) = za_x 49 (.aload_n 0) 40 l st w := za_n.at zcc_49 dX5_writeOut_40 rfl
theorem f_49_41 (l : za_L) (st : List Value) (w : za_W) : za_n 49 (41, l, st, w) = za_x 49 (.getfield 40) 41 l st w := za_n.at zcc_49 dX5_writeOut_41 rfl
theorem f_49_44 (l : za_L) (st : List Value) (w : za_W) : za_n 49 (44, l, st, w) = za_go 45 l (.int (1) :: st) w := (za_n.at zcc_49 dX5_writeOut_44 rfl).trans (congrArg (fun x => za_go 45 l (.int x :: st) w) (by decide))
theorem f_49_45 (l : za_L) (st : List Value) (w : za_W) : za_n 49 (45, l, st, w) = za_x 49 (.iload_n 1) 45 l st w := za_n.at zcc_49 dX5_writeOut_45 rfl
theorem f_49_46 (l : za_L) (st : List Value) (w : za_W) : za_n 49 (46, l, st, w) = za_x 49 (.invokevirtual 115) 46 l st w := za_n.at zcc_49 dX5_writeOut_46 rfl
theorem f_49_49 (l : za_L) (st : List Value) (w : za_W) : za_n 49 (49, l, st, w) = za_x 49 (.aload_n 0) 49 l st w := za_n.at zcc_49 dX5_writeOut_49 rfl
theorem f_49_50 (l : za_L) (st : List Value) (w : za_W) : za_n 49 (50, l, st, w) = za_x 49 (.invokevirtual 241) 50 l st w := za_n.at zcc_49 dX5_writeOut_50 rfl
theorem f_49_53 (l : za_L) (st : List Value) (w : za_W) : za_n 49 (53, l, st, w) = za_x 49 (.aload_n 0) 53 l st w := za_n.at zcc_49 dX5_writeOut_53 rfl
theorem f_49_54 (l : za_L) (st : List Value) (w : za_W) : za_n 49 (54, l, st, w) = za_x 49 (.getfield 40) 54 l st w := za_n.at zcc_49 dX5_writeOut_54 rfl
theorem f_49_57 (l : za_L) (st : List Value) (w : za_W) : za_n 49 (57, l, st, w) = za_x 49 (.getfield 122) 57 l st w := za_n.at zcc_49 dX5_writeOut_57 rfl
theorem f_49_60 (l : za_L) (st : List Value) (w : za_W) : za_n 49 (60, l, st, w) = za_x 49 (.if_icmp .eq 18) 60 l st w := za_n.at zcc_49 dX5_writeOut_60 rfl
theorem f_49_63 (l : za_L) (st : List Value) (w : za_W) : za_n 49 (63, l, st, w) = za_x 49 (.aload_n 0) 63 l st w := za_n.at zcc_49 dX5_writeOut_63 rfl
theorem f_49_64 (l : za_L) (st : List Value) (w : za_W) : za_n 49 (64, l, st, w) = za_x 49 (.getfield 36) 64 l st w := za_n.at zcc_49 dX5_writeOut_64 rfl
theorem f_49_67 (l : za_L) (st : List Value) (w : za_W) : za_n 49 (67, l, st, w) = za_x 49 (.iload_n 2) 67 l st w := za_n.at zcc_49 dX5_writeOut_67 rfl
theorem f_49_68 (l : za_L) (st : List Value) (w : za_W) : za_n 49 (68, l, st, w) = za_x 49 (.invokevirtual 91) 68 l st w := za_n.at zcc_49 dX5_writeOut_68 rfl
theorem f_49_71 (l : za_L) (st : List Value) (w : za_W) : za_n 49 (71, l, st, w) = za_x 49 (.aload_n 0) 71 l st w := za_n.at zcc_49 dX5_writeOut_71 rfl
theorem f_49_72 (l : za_L) (st : List Value) (w : za_W) : za_n 49 (72, l, st, w) = za_go 74 l (.int (12) :: st) w := (za_n.at zcc_49 dX5_writeOut_72 rfl).trans (congrArg (fun x => za_go 74 l (.int x :: st) w) (by decide))
theorem f_49_74 (l : za_L) (st : List Value) (w : za_W) : za_n 49 (74, l, st, w) = za_x 49 (.invokevirtual 105) 74 l st w := za_n.at zcc_49 dX5_writeOut_74 rfl
theorem f_49_77 (l : za_L) (st : List Value) (w : za_W) : za_n 49 (77, l, st, w) = za_x 49 (.ireturn) 77 l st w := za_n.at zcc_49 dX5_writeOut_77 rfl
theorem f_49_78 (l : za_L) (st : List Value) (w : za_W) : za_n 49 (78, l, st, w) = za_go 79 l (.int (1) :: st) w := (za_n.at zcc_49 dX5_writeOut_78 rfl).trans (congrArg (fun x => za_go 79 l (.int x :: st) w) (by decide))
theorem f_49_79 (l : za_L) (st : List Value) (w : za_W) : za_n 49 (79, l, st, w) = za_x 49 (.ireturn) 79 l st w := za_n.at zcc_49 dX5_writeOut_79 rfl
theorem f_50_0 (l : za_L) (st : List Value) (w : za_W) : za_n 50 (0, l, st, w) = za_go 1 l (.int (0) :: st) w := (za_n.at zcc_50 dX5_plainSize_0 rfl).trans (congrArg (fun x => za_go 1 l (.int x :: st) w) (by decide))
theorem f_50_1 (l : za_L) (st : List Value) (w : za_W) : za_n 50 (1, l, st, w) = za_x 50 (.istore_n 1) 1 l st w := za_n.at zcc_50 dX5_plainSize_1 rfl
theorem f_50_2 (l : za_L) (st : List Value) (w : za_W) : za_n 50 (2, l, st, w) = za_go 3 l (.int (0) :: st) w := (za_n.at zcc_50 dX5_plainSize_2 rfl).trans (congrArg (fun x => za_go 3 l (.int x :: st) w) (by decide))
theorem f_50_3 (l : za_L) (st : List Value) (w : za_W) : za_n 50 (3, l, st, w) = za_x 50 (.istore_n 2) 3 l st w := za_n.at zcc_50 dX5_plainSize_3 rfl
theorem f_50_4 (l : za_L) (st : List Value) (w : za_W) : za_n 50 (4, l, st, w) = za_go 5 l (.int (0) :: st) w := (za_n.at zcc_50 dX5_plainSize_4 rfl).trans (congrArg (fun x => za_go 5 l (.int x :: st) w) (by decide))
theorem f_50_5 (l : za_L) (st : List Value) (w : za_W) : za_n 50 (5, l, st, w) = za_x 50 (.istore_n 3) 5 l st w := za_n.at zcc_50 dX5_plainSize_5 rfl
theorem f_50_6 (l : za_L) (st : List Value) (w : za_W) : za_n 50 (6, l, st, w) = za_x 50 (.iload_n 3) 6 l st w := za_n.at zcc_50 dX5_plainSize_6 rfl
theorem f_50_7 (l : za_L) (st : List Value) (w : za_W) : za_n 50 (7, l, st, w) = za_x 50 (.aload_n 0) 7 l st w := za_n.at zcc_50 dX5_plainSize_7 rfl
theorem f_50_8 (l : za_L) (st : List Value) (w : za_W) : za_n 50 (8, l, st, w) = za_x 50 (.getfield 216) 8 l st w := za_n.at zcc_50 dX5_plainSize_8 rfl
theorem f_50_11 (l : za_L) (st : List Value) (w : za_W) : za_n 50 (11, l, st, w) = za_x 50 (.if_icmp .ge 64) 11 l st w := za_n.at zcc_50 dX5_plainSize_11 rfl
theorem f_50_14 (l : za_L) (st : List Value) (w : za_W) : za_n 50 (14, l, st, w) = za_x 50 (.iload_n 2) 14 l st w := za_n.at zcc_50 dX5_plainSize_14 rfl
theorem f_50_15 (l : za_L) (st : List Value) (w : za_W) : za_n 50 (15, l, st, w) = za_go 16 l (.int (4) :: st) w := (za_n.at zcc_50 dX5_plainSize_15 rfl).trans (congrArg (fun x => za_go 16 l (.int x :: st) w) (by decide))
theorem f_50_16 (l : za_L) (st : List Value) (w : za_W) : za_n 50 (16, l, st, w) = za_x 50 (.if_icmp .ne 21) 16 l st w := za_n.at zcc_50 dX5_plainSize_16 rfl
theorem f_50_19 (l : za_L) (st : List Value) (w : za_W) : za_n 50 (19, l, st, w) = za_x 50 (.iload_n 1) 19 l st w := za_n.at zcc_50 dX5_plainSize_19 rfl
theorem f_50_20 (l : za_L) (st : List Value) (w : za_W) : za_n 50 (20, l, st, w) = za_x 50 (.aload_n 0) 20 l st w := za_n.at zcc_50 dX5_plainSize_20 rfl
theorem f_50_21 (l : za_L) (st : List Value) (w : za_W) : za_n 50 (21, l, st, w) = za_x 50 (.getfield 33) 21 l st w := za_n.at zcc_50 dX5_plainSize_21 rfl
theorem f_50_24 (l : za_L) (st : List Value) (w : za_W) : za_n 50 (24, l, st, w) = za_x 50 (.iload_n 3) 24 l st w := za_n.at zcc_50 dX5_plainSize_24 rfl
theorem f_50_25 (l : za_L) (st : List Value) (w : za_W) : za_n 50 (25, l, st, w) = za_x 50 (.baload) 25 l st w := za_n.at zcc_50 dX5_plainSize_25 rfl
theorem f_50_26 (l : za_L) (st : List Value) (w : za_W) : za_n 50 (26, l, st, w) = za_go 29 l (.int (255) :: st) w := (za_n.at zcc_50 dX5_plainSize_26 rfl).trans (congrArg (fun x => za_go 29 l (.int x :: st) w) (by decide))
theorem f_50_29 (l : za_L) (st : List Value) (w : za_W) : za_n 50 (29, l, st, w) = za_x 50 (.iand) 29 l st w := za_n.at zcc_50 dX5_plainSize_29 rfl
theorem f_50_30 (l : za_L) (st : List Value) (w : za_W) : za_n 50 (30, l, st, w) = za_x 50 (.iadd) 30 l st w := za_n.at zcc_50 dX5_plainSize_30 rfl
theorem f_50_31 (l : za_L) (st : List Value) (w : za_W) : za_n 50 (31, l, st, w) = za_x 50 (.istore_n 1) 31 l st w := za_n.at zcc_50 dX5_plainSize_31 rfl
theorem f_50_32 (l : za_L) (st : List Value) (w : za_W) : za_n 50 (32, l, st, w) = za_go 33 l (.int (0) :: st) w := (za_n.at zcc_50 dX5_plainSize_32 rfl).trans (congrArg (fun x => za_go 33 l (.int x :: st) w) (by decide))
theorem f_50_33 (l : za_L) (st : List Value) (w : za_W) : za_n 50 (33, l, st, w) = za_x 50 (.istore_n 2) 33 l st w := za_n.at zcc_50 dX5_plainSize_33 rfl
theorem f_50_34 (l : za_L) (st : List Value) (w : za_W) : za_n 50 (34, l, st, w) = za_go 69 l st w := (za_n.at zcc_50 dX5_plainSize_34 rfl).trans (za_jp.at (by decide))
theorem f_50_37 (l : za_L) (st : List Value) (w : za_W) : za_n 50 (37, l, st, w) = za_x 50 (.iload_n 2) 37 l st w := za_n.at zcc_50 dX5_plainSize_37 rfl
theorem f_50_38 (l : za_L) (st : List Value) (w : za_W) : za_n 50 (38, l, st, w) = za_x 50 (.ifCond .le 26) 38 l st w := za_n.at zcc_50 dX5_plainSize_38 rfl
theorem f_50_41 (l : za_L) (st : List Value) (w : za_W) : za_n 50 (41, l, st, w) = za_x 50 (.aload_n 0) 41 l st w := za_n.at zcc_50 dX5_plainSize_41 rfl
theorem f_50_42 (l : za_L) (st : List Value) (w : za_W) : za_n 50 (42, l, st, w) = za_x 50 (.getfield 33) 42 l st w := za_n.at zcc_50 dX5_plainSize_42 rfl
theorem f_50_45 (l : za_L) (st : List Value) (w : za_W) : za_n 50 (45, l, st, w) = za_x 50 (.iload_n 3) 45 l st w := za_n.at zcc_50 dX5_plainSize_45 rfl
theorem f_50_46 (l : za_L) (st : List Value) (w : za_W) : za_n 50 (46, l, st, w) = za_x 50 (.baload) 46 l st w := za_n.at zcc_50 dX5_plainSize_46 rfl
theorem f_50_47 (l : za_L) (st : List Value) (w : za_W) : za_n 50 (47, l, st, w) = za_x 50 (.aload_n 0) 47 l st w := za_n.at zcc_50 dX5_plainSize_47 rfl
theorem f_50_48 (l : za_L) (st : List Value) (w : za_W) : za_n 50 (48, l, st, w) = za_x 50 (.getfield 33) 48 l st w := za_n.at zcc_50 dX5_plainSize_48 rfl
theorem f_50_51 (l : za_L) (st : List Value) (w : za_W) : za_n 50 (51, l, st, w) = za_x 50 (.iload_n 3) 51 l st w := za_n.at zcc_50 dX5_plainSize_51 rfl
theorem f_50_52 (l : za_L) (st : List Value) (w : za_W) : za_n 50 (52, l, st, w) = za_go 53 l (.int (1) :: st) w := (za_n.at zcc_50 dX5_plainSize_52 rfl).trans (congrArg (fun x => za_go 53 l (.int x :: st) w) (by decide))
theorem f_50_53 (l : za_L) (st : List Value) (w : za_W) : za_n 50 (53, l, st, w) = za_x 50 (.isub) 53 l st w := za_n.at zcc_50 dX5_plainSize_53 rfl
theorem f_50_54 (l : za_L) (st : List Value) (w : za_W) : za_n 50 (54, l, st, w) = za_x 50 (.baload) 54 l st w := za_n.at zcc_50 dX5_plainSize_54 rfl
theorem f_50_55 (l : za_L) (st : List Value) (w : za_W) : za_n 50 (55, l, st, w) = za_x 50 (.if_icmp .ne 9) 55 l st w := za_n.at zcc_50 dX5_plainSize_55 rfl
theorem f_50_58 (l : za_L) (st : List Value) (w : za_W) : za_n 50 (58, l, st, w) = za_x 50 (.iload_n 2) 58 l st w := za_n.at zcc_50 dX5_plainSize_58 rfl
theorem f_50_59 (l : za_L) (st : List Value) (w : za_W) : za_n 50 (59, l, st, w) = za_go 60 l (.int (1) :: st) w := (za_n.at zcc_50 dX5_plainSize_59 rfl).trans (congrArg (fun x => za_go 60 l (.int x :: st) w) (by decide))
theorem f_50_60 (l : za_L) (st : List Value) (w : za_W) : za_n 50 (60, l, st, w) = za_x 50 (.iadd) 60 l st w := za_n.at zcc_50 dX5_plainSize_60 rfl
theorem f_50_61 (l : za_L) (st : List Value) (w : za_W) : za_n 50 (61, l, st, w) = za_go 65 l st w := (za_n.at zcc_50 dX5_plainSize_61 rfl).trans (za_jp.at (by decide))
theorem f_50_64 (l : za_L) (st : List Value) (w : za_W) : za_n 50 (64, l, st, w) = za_go 65 l (.int (1) :: st) w := (za_n.at zcc_50 dX5_plainSize_64 rfl).trans (congrArg (fun x => za_go 65 l (.int x :: st) w) (by decide))
theorem f_50_65 (l : za_L) (st : List Value) (w : za_W) : za_n 50 (65, l, st, w) = za_x 50 (.istore_n 2) 65 l st w := za_n.at zcc_50 dX5_plainSize_65 rfl
theorem f_50_66 (l : za_L) (st : List Value) (w : za_W) : za_n 50 (66, l, st, w) = za_x 50 (.iinc 1 1) 66 l st w := za_n.at zcc_50 dX5_plainSize_66 rfl
theorem f_50_69 (l : za_L) (st : List Value) (w : za_W) : za_n 50 (69, l, st, w) = za_x 50 (.iinc 3 1) 69 l st w := za_n.at zcc_50 dX5_plainSize_69 rfl
theorem f_50_72 (l : za_L) (st : List Value) (w : za_W) : za_n 50 (72, l, st, w) = za_go 6 l st w := (za_n.at zcc_50 dX5_plainSize_72 rfl).trans (za_jp.at (by decide))
theorem f_50_75 (l : za_L) (st : List Value) (w : za_W) : za_n 50 (75, l, st, w) = za_x 50 (.iload_n 2) 75 l st w := za_n.at zcc_50 dX5_plainSize_75 rfl
theorem f_50_76 (l : za_L) (st : List Value) (w : za_W) : za_n 50 (76, l, st, w) = za_go 77 l (.int (4) :: st) w := (za_n.at zcc_50 dX5_plainSize_76 rfl).trans (congrArg (fun x => za_go 77 l (.int x :: st) w) (by decide))
theorem f_50_77 (l : za_L) (st : List Value) (w : za_W) : za_n 50 (77, l, st, w) = za_x 50 (.if_icmp .ne 7) 77 l st w := za_n.at zcc_50 dX5_plainSize_77 rfl
theorem f_50_80 (l : za_L) (st : List Value) (w : za_W) : za_n 50 (80, l, st, w) = za_go 81 l (.int (-1) :: st) w := (za_n.at zcc_50 dX5_plainSize_80 rfl).trans (congrArg (fun x => za_go 81 l (.int x :: st) w) (by decide))
theorem f_50_81 (l : za_L) (st : List Value) (w : za_W) : za_n 50 (81, l, st, w) = za_go 85 l st w := (za_n.at zcc_50 dX5_plainSize_81 rfl).trans (za_jp.at (by decide))
theorem f_50_84 (l : za_L) (st : List Value) (w : za_W) : za_n 50 (84, l, st, w) = za_x 50 (.iload_n 1) 84 l st w := za_n.at zcc_50 dX5_plainSize_84 rfl
theorem f_50_85 (l : za_L) (st : List Value) (w : za_W) : za_n 50 (85, l, st, w) = za_x 50 (.ireturn) 85 l st w := za_n.at zcc_50 dX5_plainSize_85 rfl
theorem f_51_0 (l : za_L) (st : List Value) (w : za_W) : za_n 51 (0, l, st, w) = za_go 1 l (.int (-1) :: st) w := (za_n.at zcc_51 dX5_lengthenRuns_0 rfl).trans (congrArg (fun x => za_go 1 l (.int x :: st) w) (by decide))
theorem f_51_1 (l : za_L) (st : List Value) (w : za_W) : za_n 51 (1, l, st, w) = za_x 51 (.istore_n 1) 1 l st w := za_n.at zcc_51 dX5_lengthenRuns_1 rfl
theorem f_51_2 (l : za_L) (st : List Value) (w : za_W) : za_n 51 (2, l, st, w) = za_go 3 l (.int (0) :: st) w := (za_n.at zcc_51 dX5_lengthenRuns_2 rfl).trans (congrArg (fun x => za_go 3 l (.int x :: st) w) (by decide))
theorem f_51_3 (l : za_L) (st : List Value) (w : za_W) : za_n 51 (3, l, st, w) = za_x 51 (.istore_n 2) 3 l st w := za_n.at zcc_51 dX5_lengthenRuns_3 rfl
theorem f_51_4 (l : za_L) (st : List Value) (w : za_W) : za_n 51 (4, l, st, w) = za_go 5 l (.int (0) :: st) w := (za_n.at zcc_51 dX5_lengthenRuns_4 rfl).trans (congrArg (fun x => za_go 5 l (.int x :: st) w) (by decide))
theorem f_51_5 (l : za_L) (st : List Value) (w : za_W) : za_n 51 (5, l, st, w) = za_x 51 (.istore_n 3) 5 l st w := za_n.at zcc_51 dX5_lengthenRuns_5 rfl
theorem f_51_6 (l : za_L) (st : List Value) (w : za_W) : za_n 51 (6, l, st, w) = za_x 51 (.iload_n 3) 6 l st w := za_n.at zcc_51 dX5_lengthenRuns_6 rfl
theorem f_51_7 (l : za_L) (st : List Value) (w : za_W) : za_n 51 (7, l, st, w) = za_x 51 (.aload_n 0) 7 l st w := za_n.at zcc_51 dX5_lengthenRuns_7 rfl
theorem f_51_8 (l : za_L) (st : List Value) (w : za_W) : za_n 51 (8, l, st, w) = za_x 51 (.getfield 216) 8 l st w := za_n.at zcc_51 dX5_lengthenRuns_8 rfl
theorem f_51_11 (l : za_L) (st : List Value) (w : za_W) : za_n 51 (11, l, st, w) = za_x 51 (.if_icmp .ge 113) 11 l st w := za_n.at zcc_51 dX5_lengthenRuns_11 rfl
theorem f_51_14 (l : za_L) (st : List Value) (w : za_W) : za_n 51 (14, l, st, w) = za_x 51 (.aload_n 0) 14 l st w := za_n.at zcc_51 dX5_lengthenRuns_14 rfl
theorem f_51_15 (l : za_L) (st : List Value) (w : za_W) : za_n 51 (15, l, st, w) = za_x 51 (.getfield 33) 15 l st w := za_n.at zcc_51 dX5_lengthenRuns_15 rfl
theorem f_51_18 (l : za_L) (st : List Value) (w : za_W) : za_n 51 (18, l, st, w) = za_x 51 (.iload_n 3) 18 l st w := za_n.at zcc_51 dX5_lengthenRuns_18 rfl
theorem f_51_19 (l : za_L) (st : List Value) (w : za_W) : za_n 51 (19, l, st, w) = za_x 51 (.baload) 19 l st w := za_n.at zcc_51 dX5_lengthenRuns_19 rfl
theorem f_51_20 (l : za_L) (st : List Value) (w : za_W) : za_n 51 (20, l, st, w) = za_go 23 l (.int (255) :: st) w := (za_n.at zcc_51 dX5_lengthenRuns_20 rfl).trans (congrArg (fun x => za_go 23 l (.int x :: st) w) (by decide))
theorem f_51_23 (l : za_L) (st : List Value) (w : za_W) : za_n 51 (23, l, st, w) = za_x 51 (.iand) 23 l st w := za_n.at zcc_51 dX5_lengthenRuns_23 rfl
theorem f_51_24 (l : za_L) (st : List Value) (w : za_W) : za_n 51 (24, l, st, w) = za_x 51 (.istore 4) 24 l st w := za_n.at zcc_51 dX5_lengthenRuns_24 rfl
theorem f_51_26 (l : za_L) (st : List Value) (w : za_W) : za_n 51 (26, l, st, w) = za_go 27 l (.int (1) :: st) w := (za_n.at zcc_51 dX5_lengthenRuns_26 rfl).trans (congrArg (fun x => za_go 27 l (.int x :: st) w) (by decide))
theorem f_51_27 (l : za_L) (st : List Value) (w : za_W) : za_n 51 (27, l, st, w) = za_x 51 (.istore 5) 27 l st w := za_n.at zcc_51 dX5_lengthenRuns_27 rfl
theorem f_51_29 (l : za_L) (st : List Value) (w : za_W) : za_n 51 (29, l, st, w) = za_x 51 (.iload_n 2) 29 l st w := za_n.at zcc_51 dX5_lengthenRuns_29 rfl
theorem f_51_30 (l : za_L) (st : List Value) (w : za_W) : za_n 51 (30, l, st, w) = za_go 31 l (.int (4) :: st) w := (za_n.at zcc_51 dX5_lengthenRuns_30 rfl).trans (congrArg (fun x => za_go 31 l (.int x :: st) w) (by decide))
theorem f_51_31 (l : za_L) (st : List Value) (w : za_W) : za_n 51 (31, l, st, w) = za_x 51 (.if_icmp .ne 26) 31 l st w := za_n.at zcc_51 dX5_lengthenRuns_31 rfl
theorem f_51_34 (l : za_L) (st : List Value) (w : za_W) : za_n 51 (34, l, st, w) = za_x 51 (.iload 4) 34 l st w := za_n.at zcc_51 dX5_lengthenRuns_34 rfl
theorem f_51_36 (l : za_L) (st : List Value) (w : za_W) : za_n 51 (36, l, st, w) = za_x 51 (.istore 5) 36 l st w := za_n.at zcc_51 dX5_lengthenRuns_36 rfl
theorem f_51_38 (l : za_L) (st : List Value) (w : za_W) : za_n 51 (38, l, st, w) = za_x 51 (.aload_n 0) 38 l st w := za_n.at zcc_51 dX5_lengthenRuns_38 rfl
theorem f_51_39 (l : za_L) (st : List Value) (w : za_W) : za_n 51 (39, l, st, w) = za_x 51 (.getfield 33) 39 l st w := za_n.at zcc_51 dX5_lengthenRuns_39 rfl
theorem f_51_42 (l : za_L) (st : List Value) (w : za_W) : za_n 51 (42, l, st, w) = za_x 51 (.iload_n 3) 42 l st w := za_n.at zcc_51 dX5_lengthenRuns_42 rfl
theorem f_51_43 (l : za_L) (st : List Value) (w : za_W) : za_n 51 (43, l, st, w) = za_go 44 l (.int (1) :: st) w := (za_n.at zcc_51 dX5_lengthenRuns_43 rfl).trans (congrArg (fun x => za_go 44 l (.int x :: st) w) (by decide))
theorem f_51_44 (l : za_L) (st : List Value) (w : za_W) : za_n 51 (44, l, st, w) = za_x 51 (.isub) 44 l st w := za_n.at zcc_51 dX5_lengthenRuns_44 rfl
theorem f_51_45 (l : za_L) (st : List Value) (w : za_W) : za_n 51 (45, l, st, w) = za_x 51 (.baload) 45 l st w := za_n.at zcc_51 dX5_lengthenRuns_45 rfl
theorem f_51_46 (l : za_L) (st : List Value) (w : za_W) : za_n 51 (46, l, st, w) = za_go 49 l (.int (255) :: st) w := (za_n.at zcc_51 dX5_lengthenRuns_46 rfl).trans (congrArg (fun x => za_go 49 l (.int x :: st) w) (by decide))
theorem f_51_49 (l : za_L) (st : List Value) (w : za_W) : za_n 51 (49, l, st, w) = za_x 51 (.iand) 49 l st w := za_n.at zcc_51 dX5_lengthenRuns_49 rfl
theorem f_51_50 (l : za_L) (st : List Value) (w : za_W) : za_n 51 (50, l, st, w) = za_x 51 (.istore 4) 50 l st w := za_n.at zcc_51 dX5_lengthenRuns_50 rfl
theorem f_51_52 (l : za_L) (st : List Value) (w : za_W) : za_n 51 (52, l, st, w) = za_go 53 l (.int (0) :: st) w := (za_n.at zcc_51 dX5_lengthenRuns_52 rfl).trans (congrArg (fun x => za_go 53 l (.int x :: st) w) (by decide))
theorem f_51_53 (l : za_L) (st : List Value) (w : za_W) : za_n 51 (53, l, st, w) = za_x 51 (.istore_n 2) 53 l st w := za_n.at zcc_51 dX5_lengthenRuns_53 rfl
theorem f_51_54 (l : za_L) (st : List Value) (w : za_W) : za_n 51 (54, l, st, w) = za_go 86 l st w := (za_n.at zcc_51 dX5_lengthenRuns_54 rfl).trans (za_jp.at (by decide))
theorem f_51_57 (l : za_L) (st : List Value) (w : za_W) : za_n 51 (57, l, st, w) = za_x 51 (.iload_n 2) 57 l st w := za_n.at zcc_51 dX5_lengthenRuns_57 rfl
theorem f_51_58 (l : za_L) (st : List Value) (w : za_W) : za_n 51 (58, l, st, w) = za_x 51 (.ifCond .le 26) 58 l st w := za_n.at zcc_51 dX5_lengthenRuns_58 rfl
theorem f_51_61 (l : za_L) (st : List Value) (w : za_W) : za_n 51 (61, l, st, w) = za_x 51 (.aload_n 0) 61 l st w := za_n.at zcc_51 dX5_lengthenRuns_61 rfl
theorem f_51_62 (l : za_L) (st : List Value) (w : za_W) : za_n 51 (62, l, st, w) = za_x 51 (.getfield 33) 62 l st w := za_n.at zcc_51 dX5_lengthenRuns_62 rfl
theorem f_51_65 (l : za_L) (st : List Value) (w : za_W) : za_n 51 (65, l, st, w) = za_x 51 (.iload_n 3) 65 l st w := za_n.at zcc_51 dX5_lengthenRuns_65 rfl
theorem f_51_66 (l : za_L) (st : List Value) (w : za_W) : za_n 51 (66, l, st, w) = za_x 51 (.baload) 66 l st w := za_n.at zcc_51 dX5_lengthenRuns_66 rfl
theorem f_51_67 (l : za_L) (st : List Value) (w : za_W) : za_n 51 (67, l, st, w) = za_x 51 (.aload_n 0) 67 l st w := za_n.at zcc_51 dX5_lengthenRuns_67 rfl
theorem f_51_68 (l : za_L) (st : List Value) (w : za_W) : za_n 51 (68, l, st, w) = za_x 51 (.getfield 33) 68 l st w := za_n.at zcc_51 dX5_lengthenRuns_68 rfl
theorem f_51_71 (l : za_L) (st : List Value) (w : za_W) : za_n 51 (71, l, st, w) = za_x 51 (.iload_n 3) 71 l st w := za_n.at zcc_51 dX5_lengthenRuns_71 rfl
theorem f_51_72 (l : za_L) (st : List Value) (w : za_W) : za_n 51 (72, l, st, w) = za_go 73 l (.int (1) :: st) w := (za_n.at zcc_51 dX5_lengthenRuns_72 rfl).trans (congrArg (fun x => za_go 73 l (.int x :: st) w) (by decide))
theorem f_51_73 (l : za_L) (st : List Value) (w : za_W) : za_n 51 (73, l, st, w) = za_x 51 (.isub) 73 l st w := za_n.at zcc_51 dX5_lengthenRuns_73 rfl
theorem f_51_74 (l : za_L) (st : List Value) (w : za_W) : za_n 51 (74, l, st, w) = za_x 51 (.baload) 74 l st w := za_n.at zcc_51 dX5_lengthenRuns_74 rfl
theorem f_51_75 (l : za_L) (st : List Value) (w : za_W) : za_n 51 (75, l, st, w) = za_x 51 (.if_icmp .ne 9) 75 l st w := za_n.at zcc_51 dX5_lengthenRuns_75 rfl
theorem f_51_78 (l : za_L) (st : List Value) (w : za_W) : za_n 51 (78, l, st, w) = za_x 51 (.iload_n 2) 78 l st w := za_n.at zcc_51 dX5_lengthenRuns_78 rfl
theorem f_51_79 (l : za_L) (st : List Value) (w : za_W) : za_n 51 (79, l, st, w) = za_go 80 l (.int (1) :: st) w := (za_n.at zcc_51 dX5_lengthenRuns_79 rfl).trans (congrArg (fun x => za_go 80 l (.int x :: st) w) (by decide))
theorem f_51_80 (l : za_L) (st : List Value) (w : za_W) : za_n 51 (80, l, st, w) = za_x 51 (.iadd) 80 l st w := za_n.at zcc_51 dX5_lengthenRuns_80 rfl
theorem f_51_81 (l : za_L) (st : List Value) (w : za_W) : za_n 51 (81, l, st, w) = za_go 85 l st w := (za_n.at zcc_51 dX5_lengthenRuns_81 rfl).trans (za_jp.at (by decide))
theorem f_51_84 (l : za_L) (st : List Value) (w : za_W) : za_n 51 (84, l, st, w) = za_go 85 l (.int (1) :: st) w := (za_n.at zcc_51 dX5_lengthenRuns_84 rfl).trans (congrArg (fun x => za_go 85 l (.int x :: st) w) (by decide))
theorem f_51_85 (l : za_L) (st : List Value) (w : za_W) : za_n 51 (85, l, st, w) = za_x 51 (.istore_n 2) 85 l st w := za_n.at zcc_51 dX5_lengthenRuns_85 rfl
theorem f_51_86 (l : za_L) (st : List Value) (w : za_W) : za_n 51 (86, l, st, w) = za_go 87 l (.int (0) :: st) w := (za_n.at zcc_51 dX5_lengthenRuns_86 rfl).trans (congrArg (fun x => za_go 87 l (.int x :: st) w) (by decide))
theorem f_51_87 (l : za_L) (st : List Value) (w : za_W) : za_n 51 (87, l, st, w) = za_x 51 (.istore 6) 87 l st w := za_n.at zcc_51 dX5_lengthenRuns_87 rfl
theorem f_51_89 (l : za_L) (st : List Value) (w : za_W) : za_n 51 (89, l, st, w) = za_x 51 (.iload 6) 89 l st w := za_n.at zcc_51 dX5_lengthenRuns_89 rfl
theorem f_51_91 (l : za_L) (st : List Value) (w : za_W) : za_n 51 (91, l, st, w) = za_x 51 (.iload 5) 91 l st w := za_n.at zcc_51 dX5_lengthenRuns_91 rfl
theorem f_51_93 (l : za_L) (st : List Value) (w : za_W) : za_n 51 (93, l, st, w) = za_x 51 (.if_icmp .ge 25) 93 l st w := za_n.at zcc_51 dX5_lengthenRuns_93 rfl
theorem f_51_96 (l : za_L) (st : List Value) (w : za_W) : za_n 51 (96, l, st, w) = za_x 51 (.aload_n 0) 96 l st w := za_n.at zcc_51 dX5_lengthenRuns_96 rfl
theorem f_51_97 (l : za_L) (st : List Value) (w : za_W) : za_n 51 (97, l, st, w) = za_x 51 (.getfield 36) 97 l st w := za_n.at zcc_51 dX5_lengthenRuns_97 rfl
theorem f_51_100 (l : za_L) (st : List Value) (w : za_W) : za_n 51 (100, l, st, w) = za_x 51 (.iload 4) 100 l st w := za_n.at zcc_51 dX5_lengthenRuns_100 rfl
theorem f_51_102 (l : za_L) (st : List Value) (w : za_W) : za_n 51 (102, l, st, w) = za_x 51 (.invokevirtual 244) 102 l st w := za_n.at zcc_51 dX5_lengthenRuns_102 rfl
theorem f_51_105 (l : za_L) (st : List Value) (w : za_W) : za_n 51 (105, l, st, w) = za_x 51 (.iload_n 1) 105 l st w := za_n.at zcc_51 dX5_lengthenRuns_105 rfl
theorem f_51_106 (l : za_L) (st : List Value) (w : za_W) : za_n 51 (106, l, st, w) = za_x 51 (.iload 4) 106 l st w := za_n.at zcc_51 dX5_lengthenRuns_106 rfl
theorem f_51_108 (l : za_L) (st : List Value) (w : za_W) : za_n 51 (108, l, st, w) = za_x 51 (.invokestatic 245) 108 l st w := za_n.at zcc_51 dX5_lengthenRuns_108 rfl
theorem f_51_111 (l : za_L) (st : List Value) (w : za_W) : za_n 51 (111, l, st, w) = za_x 51 (.istore_n 1) 111 l st w := za_n.at zcc_51 dX5_lengthenRuns_111 rfl
theorem f_51_112 (l : za_L) (st : List Value) (w : za_W) : za_n 51 (112, l, st, w) = za_x 51 (.iinc 6 1) 112 l st w := za_n.at zcc_51 dX5_lengthenRuns_112 rfl
theorem f_51_115 (l : za_L) (st : List Value) (w : za_W) : za_n 51 (115, l, st, w) = za_go 89 l st w := (za_n.at zcc_51 dX5_lengthenRuns_115 rfl).trans (za_jp.at (by decide))
theorem f_51_118 (l : za_L) (st : List Value) (w : za_W) : za_n 51 (118, l, st, w) = za_x 51 (.iinc 3 1) 118 l st w := za_n.at zcc_51 dX5_lengthenRuns_118 rfl
theorem f_51_121 (l : za_L) (st : List Value) (w : za_W) : za_n 51 (121, l, st, w) = za_go 6 l st w := (za_n.at zcc_51 dX5_lengthenRuns_121 rfl).trans (za_jp.at (by decide))
theorem f_51_124 (l : za_L) (st : List Value) (w : za_W) : za_n 51 (124, l, st, w) = za_x 51 (.iload_n 1) 124 l st w := za_n.at zcc_51 dX5_lengthenRuns_124 rfl
theorem f_51_125 (l : za_L) (st : List Value) (w : za_W) : za_n 51 (125, l, st, w) = za_go 126 l (.int (-1) :: st) w := (za_n.at zcc_51 dX5_lengthenRuns_125 rfl).trans (congrArg (fun x => za_go 126 l (.int x :: st) w) (by decide))
theorem f_51_126 (l : za_L) (st : List Value) (w : za_W) : za_n 51 (126, l, st, w) = za_x 51 (.ixor) 126 l st w := za_n.at zcc_51 dX5_lengthenRuns_126 rfl
theorem f_51_127 (l : za_L) (st : List Value) (w : za_W) : za_n 51 (127, l, st, w) = za_x 51 (.ireturn) 127 l st w := za_n.at zcc_51 dX5_lengthenRuns_127 rfl
theorem f_52_0 (l : za_L) (st : List Value) (w : za_W) : za_n 52 (0, l, st, w) = za_x 52 (.aload_n 0) 0 l st w := za_n.at zcc_52 dX6_init_0 rfl
theorem f_52_1 (l : za_L) (st : List Value) (w : za_W) : za_n 52 (1, l, st, w) = za_x 52 (.invokespecial 3) 1 l st w := za_n.at zcc_52 dX6_init_1 rfl
theorem f_52_4 (l : za_L) (st : List Value) (w : za_W) : za_n 52 (4, l, st, w) = za_x 52 (.aload_n 0) 4 l st w := za_n.at zcc_52 dX6_init_4 rfl
theorem f_52_5 (l : za_L) (st : List Value) (w : za_W) : za_n 52 (5, l, st, w) = za_x 52 (.new 9) 5 l st w := za_n.at zcc_52 dX6_init_5 rfl
theorem f_52_8 (l : za_L) (st : List Value) (w : za_W) : za_n 52 (8, l, st, w) = za_x 52 (.dup) 8 l st w := za_n.at zcc_52 dX6_init_8 rfl
theorem f_52_9 (l : za_L) (st : List Value) (w : za_W) : za_n 52 (9, l, st, w) = za_go 12 l (.int (256) :: st) w := (za_n.at zcc_52 dX6_init_9 rfl).trans (congrArg (fun x => za_go 12 l (.int x :: st) w) (by decide))
theorem f_52_12 (l : za_L) (st : List Value) (w : za_W) : za_n 52 (12, l, st, w) = za_x 52 (.invokespecial 11) 12 l st w := za_n.at zcc_52 dX6_init_12 rfl
theorem f_52_15 (l : za_L) (st : List Value) (w : za_W) : za_n 52 (15, l, st, w) = za_x 52 (.putfield 14) 15 l st w := za_n.at zcc_52 dX6_init_15 rfl
theorem f_52_18 (l : za_L) (st : List Value) (w : za_W) : za_n 52 (18, l, st, w) = za_x 52 (.aload_n 0) 18 l st w := za_n.at zcc_52 dX6_init_18 rfl
theorem f_52_19 (l : za_L) (st : List Value) (w : za_W) : za_n 52 (19, l, st, w) = za_x 52 (.new 9) 19 l st w := za_n.at zcc_52 dX6_init_19 rfl
theorem f_52_22 (l : za_L) (st : List Value) (w : za_W) : za_n 52 (22, l, st, w) = za_x 52 (.dup) 22 l st w := za_n.at zcc_52 dX6_init_22 rfl
theorem f_52_23 (l : za_L) (st : List Value) (w : za_W) : za_n 52 (23, l, st, w) = za_go 25 l (.int (6) :: st) w := (za_n.at zcc_52 dX6_init_23 rfl).trans (congrArg (fun x => za_go 25 l (.int x :: st) w) (by decide))
theorem f_52_25 (l : za_L) (st : List Value) (w : za_W) : za_n 52 (25, l, st, w) = za_x 52 (.invokespecial 11) 25 l st w := za_n.at zcc_52 dX6_init_25 rfl
theorem f_52_28 (l : za_L) (st : List Value) (w : za_W) : za_n 52 (28, l, st, w) = za_x 52 (.putfield 20) 28 l st w := za_n.at zcc_52 dX6_init_28 rfl
theorem f_52_31 (l : za_L) (st : List Value) (w : za_W) : za_n 52 (31, l, st, w) = za_x 52 (.aload_n 0) 31 l st w := za_n.at zcc_52 dX6_init_31 rfl
theorem f_52_32 (l : za_L) (st : List Value) (w : za_W) : za_n 52 (32, l, st, w) = za_x 52 (.new 23) 32 l st w := za_n.at zcc_52 dX6_init_32 rfl
theorem f_52_35 (l : za_L) (st : List Value) (w : za_W) : za_n 52 (35, l, st, w) = za_x 52 (.dup) 35 l st w := za_n.at zcc_52 dX6_init_35 rfl
theorem f_52_36 (l : za_L) (st : List Value) (w : za_W) : za_n 52 (36, l, st, w) = za_x 52 (.invokespecial 25) 36 l st w := za_n.at zcc_52 dX6_init_36 rfl
theorem f_52_39 (l : za_L) (st : List Value) (w : za_W) : za_n 52 (39, l, st, w) = za_x 52 (.putfield 26) 39 l st w := za_n.at zcc_52 dX6_init_39 rfl
theorem f_52_42 (l : za_L) (st : List Value) (w : za_W) : za_n 52 (42, l, st, w) = za_x 52 (.aload_n 0) 42 l st w := za_n.at zcc_52 dX6_init_42 rfl
theorem f_52_43 (l : za_L) (st : List Value) (w : za_W) : za_n 52 (43, l, st, w) = za_go 45 l (.int (6) :: st) w := (za_n.at zcc_52 dX6_init_43 rfl).trans (congrArg (fun x => za_go 45 l (.int x :: st) w) (by decide))
theorem f_52_45 (l : za_L) (st : List Value) (w : za_W) : za_n 52 (45, l, st, w) = za_x 52 (.anewarray 30) 45 l st w := za_n.at zcc_52 dX6_init_45 rfl
theorem f_52_48 (l : za_L) (st : List Value) (w : za_W) : za_n 52 (48, l, st, w) = za_x 52 (.putfield 32) 48 l st w := za_n.at zcc_52 dX6_init_48 rfl
theorem f_52_51 (l : za_L) (st : List Value) (w : za_W) : za_n 52 (51, l, st, w) = za_x 52 (.aload_n 0) 51 l st w := za_n.at zcc_52 dX6_init_51 rfl
theorem f_52_52 (l : za_L) (st : List Value) (w : za_W) : za_n 52 (52, l, st, w) = za_go 55 l (.int (256) :: st) w := (za_n.at zcc_52 dX6_init_52 rfl).trans (congrArg (fun x => za_go 55 l (.int x :: st) w) (by decide))
theorem f_52_55 (l : za_L) (st : List Value) (w : za_W) : za_n 52 (55, l, st, w) = za_x 52 (.newarray .int) 55 l st w := za_n.at zcc_52 dX6_init_55 rfl
theorem f_52_57 (l : za_L) (st : List Value) (w : za_W) : za_n 52 (57, l, st, w) = za_x 52 (.putfield 36) 57 l st w := za_n.at zcc_52 dX6_init_57 rfl
theorem f_52_60 (l : za_L) (st : List Value) (w : za_W) : za_n 52 (60, l, st, w) = za_x 52 (.aload_n 0) 60 l st w := za_n.at zcc_52 dX6_init_60 rfl
theorem f_52_61 (l : za_L) (st : List Value) (w : za_W) : za_n 52 (61, l, st, w) = za_go 64 l (.int (1800) :: st) w := (za_n.at zcc_52 dX6_init_61 rfl).trans (congrArg (fun x => za_go 64 l (.int x :: st) w) (by decide))
theorem f_52_64 (l : za_L) (st : List Value) (w : za_W) : za_n 52 (64, l, st, w) = za_x 52 (.newarray .byte) 64 l st w := za_n.at zcc_52 dX6_init_64 rfl
theorem f_52_66 (l : za_L) (st : List Value) (w : za_W) : za_n 52 (66, l, st, w) = za_x 52 (.putfield 40) 66 l st w := za_n.at zcc_52 dX6_init_66 rfl
theorem f_52_69 (l : za_L) (st : List Value) (w : za_W) : za_n 52 (69, l, st, w) = za_x 52 (.aload_n 0) 69 l st w := za_n.at zcc_52 dX6_init_69 rfl
theorem f_52_70 (l : za_L) (st : List Value) (w : za_W) : za_n 52 (70, l, st, w) = za_go 73 l (.int (1801) :: st) w := (za_n.at zcc_52 dX6_init_70 rfl).trans (congrArg (fun x => za_go 73 l (.int x :: st) w) (by decide))
theorem f_52_73 (l : za_L) (st : List Value) (w : za_W) : za_n 52 (73, l, st, w) = za_x 52 (.newarray .int) 73 l st w := za_n.at zcc_52 dX6_init_73 rfl
theorem f_52_75 (l : za_L) (st : List Value) (w : za_W) : za_n 52 (75, l, st, w) = za_x 52 (.putfield 44) 75 l st w := za_n.at zcc_52 dX6_init_75 rfl
theorem f_52_78 (l : za_L) (st : List Value) (w : za_W) : za_n 52 (78, l, st, w) = za_x 52 (.aload_n 0) 78 l st w := za_n.at zcc_52 dX6_init_78 rfl
theorem f_52_79 (l : za_L) (st : List Value) (w : za_W) : za_n 52 (79, l, st, w) = za_x 52 (.aload_n 2) 79 l st w := za_n.at zcc_52 dX6_init_79 rfl
theorem f_52_80 (l : za_L) (st : List Value) (w : za_W) : za_n 52 (80, l, st, w) = za_x 52 (.putfield 47) 80 l st w := za_n.at zcc_52 dX6_init_80 rfl
theorem f_52_83 (l : za_L) (st : List Value) (w : za_W) : za_n 52 (83, l, st, w) = za_x 52 (.aload_n 0) 83 l st w := za_n.at zcc_52 dX6_init_83 rfl
theorem f_52_84 (l : za_L) (st : List Value) (w : za_W) : za_n 52 (84, l, st, w) = za_x 52 (.aload_n 3) 84 l st w := za_n.at zcc_52 dX6_init_84 rfl
theorem f_52_85 (l : za_L) (st : List Value) (w : za_W) : za_n 52 (85, l, st, w) = za_x 52 (.putfield 51) 85 l st w := za_n.at zcc_52 dX6_init_85 rfl
theorem f_52_88 (l : za_L) (st : List Value) (w : za_W) : za_n 52 (88, l, st, w) = za_x 52 (.aload_n 0) 88 l st w := za_n.at zcc_52 dX6_init_88 rfl
theorem f_52_89 (l : za_L) (st : List Value) (w : za_W) : za_n 52 (89, l, st, w) = za_x 52 (.new 55) 89 l st w := za_n.at zcc_52 dX6_init_89 rfl
theorem f_52_92 (l : za_L) (st : List Value) (w : za_W) : za_n 52 (92, l, st, w) = za_x 52 (.dup) 92 l st w := za_n.at zcc_52 dX6_init_92 rfl
theorem f_52_93 (l : za_L) (st : List Value) (w : za_W) : za_n 52 (93, l, st, w) = za_x 52 (.aload_n 1) 93 l st w := za_n.at zcc_52 dX6_init_93 rfl
theorem f_52_94 (l : za_L) (st : List Value) (w : za_W) : za_n 52 (94, l, st, w) = za_x 52 (.invokespecial 57) 94 l st w := za_n.at zcc_52 dX6_init_94 rfl
theorem f_52_97 (l : za_L) (st : List Value) (w : za_W) : za_n 52 (97, l, st, w) = za_x 52 (.putfield 60) 97 l st w := za_n.at zcc_52 dX6_init_97 rfl
theorem f_52_100 (l : za_L) (st : List Value) (w : za_W) : za_n 52 (100, l, st, w) = za_go 101 l (.int (0) :: st) w := (za_n.at zcc_52 dX6_init_100 rfl).trans (congrArg (fun x => za_go 101 l (.int x :: st) w) (by decide))
theorem f_52_101 (l : za_L) (st : List Value) (w : za_W) : za_n 52 (101, l, st, w) = za_x 52 (.istore 4) 101 l st w := za_n.at zcc_52 dX6_init_101 rfl
theorem f_52_103 (l : za_L) (st : List Value) (w : za_W) : za_n 52 (103, l, st, w) = za_x 52 (.iload 4) 103 l st w := za_n.at zcc_52 dX6_init_103 rfl
theorem f_52_105 (l : za_L) (st : List Value) (w : za_W) : za_n 52 (105, l, st, w) = za_go 107 l (.int (6) :: st) w := (za_n.at zcc_52 dX6_init_105 rfl).trans (congrArg (fun x => za_go 107 l (.int x :: st) w) (by decide))
theorem f_52_107 (l : za_L) (st : List Value) (w : za_W) : za_n 52 (107, l, st, w) = za_x 52 (.if_icmp .ge 23) 107 l st w := za_n.at zcc_52 dX6_init_107 rfl
theorem f_52_110 (l : za_L) (st : List Value) (w : za_W) : za_n 52 (110, l, st, w) = za_x 52 (.aload_n 0) 110 l st w := za_n.at zcc_52 dX6_init_110 rfl
theorem f_52_111 (l : za_L) (st : List Value) (w : za_W) : za_n 52 (111, l, st, w) = za_x 52 (.getfield 32) 111 l st w := za_n.at zcc_52 dX6_init_111 rfl
theorem f_52_114 (l : za_L) (st : List Value) (w : za_W) : za_n 52 (114, l, st, w) = za_x 52 (.iload 4) 114 l st w := za_n.at zcc_52 dX6_init_114 rfl
theorem f_52_116 (l : za_L) (st : List Value) (w : za_W) : za_n 52 (116, l, st, w) = za_x 52 (.new 30) 116 l st w := za_n.at zcc_52 dX6_init_116 rfl
theorem f_52_119 (l : za_L) (st : List Value) (w : za_W) : za_n 52 (119, l, st, w) = za_x 52 (.dup) 119 l st w := za_n.at zcc_52 dX6_init_119 rfl
theorem f_52_120 (l : za_L) (st : List Value) (w : za_W) : za_n 52 (120, l, st, w) = za_x 52 (.invokespecial 64) 120 l st w := za_n.at zcc_52 dX6_init_120 rfl
theorem f_52_123 (l : za_L) (st : List Value) (w : za_W) : za_n 52 (123, l, st, w) = za_x 52 (.aastore) 123 l st w := za_n.at zcc_52 dX6_init_123 rfl
theorem f_52_124 (l : za_L) (st : List Value) (w : za_W) : za_n 52 (124, l, st, w) = za_x 52 (.iinc 4 1) 124 l st w := za_n.at zcc_52 dX6_init_124 rfl
theorem f_52_127 (l : za_L) (st : List Value) (w : za_W) : za_n 52 (127, l, st, w) = za_go 103 l st w := (za_n.at zcc_52 dX6_init_127 rfl).trans (za_jp.at (by decide))
theorem f_52_130 (l : za_L) (st : List Value) (w : za_W) : za_n 52 (130, l, st, w) = za_x 52 (.return_) 130 l st w := za_n.at zcc_52 dX6_init_130 rfl
theorem f_53_0 (l : za_L) (st : List Value) (w : za_W) : za_n 53 (0, l, st, w) = za_x 53 (.aload_n 0) 0 l st w := za_n.at zcc_53 dX6_packAll_0 rfl
theorem f_53_1 (l : za_L) (st : List Value) (w : za_W) : za_n 53 (1, l, st, w) = za_x 53 (.getfield 47) 1 l st w := za_n.at zcc_53 dX6_packAll_1 rfl
theorem f_53_4 (l : za_L) (st : List Value) (w : za_W) : za_n 53 (4, l, st, w) = za_x 53 (.invokevirtual 65) 4 l st w := za_n.at zcc_53 dX6_packAll_4 rfl
theorem f_53_7 (l : za_L) (st : List Value) (w : za_W) : za_n 53 (7, l, st, w) = za_x 53 (.aload_n 0) 7 l st w := za_n.at zcc_53 dX6_packAll_7 rfl
theorem f_53_8 (l : za_L) (st : List Value) (w : za_W) : za_n 53 (8, l, st, w) = za_x 53 (.getfield 60) 8 l st w := za_n.at zcc_53 dX6_packAll_8 rfl
theorem f_53_11 (l : za_L) (st : List Value) (w : za_W) : za_n 53 (11, l, st, w) = za_x 53 (.invokevirtual 70) 11 l st w := za_n.at zcc_53 dX6_packAll_11 rfl
theorem f_53_14 (l : za_L) (st : List Value) (w : za_W) : za_n 53 (14, l, st, w) = za_x 53 (.aload_n 0) 14 l st w := za_n.at zcc_53 dX6_packAll_14 rfl
theorem f_53_15 (l : za_L) (st : List Value) (w : za_W) : za_n 53 (15, l, st, w) = za_x 53 (.getfield 60) 15 l st w := za_n.at zcc_53 dX6_packAll_15 rfl
theorem f_53_18 (l : za_L) (st : List Value) (w : za_W) : za_n 53 (18, l, st, w) = za_go 20 l (.int (8) :: st) w := (za_n.at zcc_53 dX6_packAll_18 rfl).trans (congrArg (fun x => za_go 20 l (.int x :: st) w) (by decide))
theorem f_53_20 (l : za_L) (st : List Value) (w : za_W) : za_n 53 (20, l, st, w) = za_x 53 (.ldc2_w 73) 20 l st w := za_n.at zcc_53 dX6_packAll_20 rfl
theorem f_53_23 (l : za_L) (st : List Value) (w : za_W) : za_n 53 (23, l, st, w) = za_x 53 (.invokevirtual 75) 23 l st w := za_n.at zcc_53 dX6_packAll_23 rfl
theorem f_53_26 (l : za_L) (st : List Value) (w : za_W) : za_n 53 (26, l, st, w) = za_x 53 (.aload_n 0) 26 l st w := za_n.at zcc_53 dX6_packAll_26 rfl
theorem f_53_27 (l : za_L) (st : List Value) (w : za_W) : za_n 53 (27, l, st, w) = za_x 53 (.getfield 60) 27 l st w := za_n.at zcc_53 dX6_packAll_27 rfl
theorem f_53_30 (l : za_L) (st : List Value) (w : za_W) : za_n 53 (30, l, st, w) = za_go 32 l (.int (8) :: st) w := (za_n.at zcc_53 dX6_packAll_30 rfl).trans (congrArg (fun x => za_go 32 l (.int x :: st) w) (by decide))
theorem f_53_32 (l : za_L) (st : List Value) (w : za_W) : za_n 53 (32, l, st, w) = za_x 53 (.ldc2_w 79) 32 l st w := za_n.at zcc_53 dX6_packAll_32 rfl
theorem f_53_35 (l : za_L) (st : List Value) (w : za_W) : za_n 53 (35, l, st, w) = za_x 53 (.invokevirtual 75) 35 l st w := za_n.at zcc_53 dX6_packAll_35 rfl
theorem f_53_38 (l : za_L) (st : List Value) (w : za_W) : za_n 53 (38, l, st, w) = za_x 53 (.aload_n 0) 38 l st w := za_n.at zcc_53 dX6_packAll_38 rfl
theorem f_53_39 (l : za_L) (st : List Value) (w : za_W) : za_n 53 (39, l, st, w) = za_x 53 (.getfield 60) 39 l st w := za_n.at zcc_53 dX6_packAll_39 rfl
theorem f_53_42 (l : za_L) (st : List Value) (w : za_W) : za_n 53 (42, l, st, w) = za_go 44 l (.int (8) :: st) w := (za_n.at zcc_53 dX6_packAll_42 rfl).trans (congrArg (fun x => za_go 44 l (.int x :: st) w) (by decide))
theorem f_53_44 (l : za_L) (st : List Value) (w : za_W) : za_n 53 (44, l, st, w) = za_x 53 (.ldc2_w 81) 44 l st w := za_n.at zcc_53 dX6_packAll_44 rfl
theorem f_53_47 (l : za_L) (st : List Value) (w : za_W) : za_n 53 (47, l, st, w) = za_x 53 (.invokevirtual 75) 47 l st w := za_n.at zcc_53 dX6_packAll_47 rfl
theorem f_53_50 (l : za_L) (st : List Value) (w : za_W) : za_n 53 (50, l, st, w) = za_x 53 (.aload_n 0) 50 l st w := za_n.at zcc_53 dX6_packAll_50 rfl
theorem f_53_51 (l : za_L) (st : List Value) (w : za_W) : za_n 53 (51, l, st, w) = za_x 53 (.getfield 60) 51 l st w := za_n.at zcc_53 dX6_packAll_51 rfl
theorem f_53_54 (l : za_L) (st : List Value) (w : za_W) : za_n 53 (54, l, st, w) = za_go 56 l (.int (8) :: st) w := (za_n.at zcc_53 dX6_packAll_54 rfl).trans (congrArg (fun x => za_go 56 l (.int x :: st) w) (by decide))
theorem f_53_56 (l : za_L) (st : List Value) (w : za_W) : za_n 53 (56, l, st, w) = za_go 58 l (.int (48) :: st) w := (za_n.at zcc_53 dX6_packAll_56 rfl).trans (congrArg (fun x => za_go 58 l (.int x :: st) w) (by decide))
theorem f_53_58 (l : za_L) (st : List Value) (w : za_W) : za_n 53 (58, l, st, w) = za_x 53 (.iload_n 2) 58 l st w := za_n.at zcc_53 dX6_packAll_58 rfl
theorem f_53_59 (l : za_L) (st : List Value) (w : za_W) : za_n 53 (59, l, st, w) = za_x 53 (.iadd) 59 l st w := za_n.at zcc_53 dX6_packAll_59 rfl
theorem f_53_60 (l : za_L) (st : List Value) (w : za_W) : za_n 53 (60, l, st, w) = za_x 53 (.i2l) 60 l st w := za_n.at zcc_53 dX6_packAll_60 rfl
theorem f_53_61 (l : za_L) (st : List Value) (w : za_W) : za_n 53 (61, l, st, w) = za_x 53 (.invokevirtual 75) 61 l st w := za_n.at zcc_53 dX6_packAll_61 rfl
theorem f_53_64 (l : za_L) (st : List Value) (w : za_W) : za_n 53 (64, l, st, w) = za_go 65 l (.int (0) :: st) w := (za_n.at zcc_53 dX6_packAll_64 rfl).trans (congrArg (fun x => za_go 65 l (.int x :: st) w) (by decide))
theorem f_53_65 (l : za_L) (st : List Value) (w : za_W) : za_n 53 (65, l, st, w) = za_x 53 (.istore_n 3) 65 l st w := za_n.at zcc_53 dX6_packAll_65 rfl
theorem f_53_66 (l : za_L) (st : List Value) (w : za_W) : za_n 53 (66, l, st, w) = za_go 67 l (.int (0) :: st) w := (za_n.at zcc_53 dX6_packAll_66 rfl).trans (congrArg (fun x => za_go 67 l (.int x :: st) w) (by decide))
theorem f_53_67 (l : za_L) (st : List Value) (w : za_W) : za_n 53 (67, l, st, w) = za_x 53 (.istore 4) 67 l st w := za_n.at zcc_53 dX6_packAll_67 rfl
theorem f_53_69 (l : za_L) (st : List Value) (w : za_W) : za_n 53 (69, l, st, w) = za_go 70 l (.int (0) :: st) w := (za_n.at zcc_53 dX6_packAll_69 rfl).trans (congrArg (fun x => za_go 70 l (.int x :: st) w) (by decide))
theorem f_53_70 (l : za_L) (st : List Value) (w : za_W) : za_n 53 (70, l, st, w) = za_x 53 (.istore 5) 70 l st w := za_n.at zcc_53 dX6_packAll_70 rfl
theorem f_53_72 (l : za_L) (st : List Value) (w : za_W) : za_n 53 (72, l, st, w) = za_x 53 (.iload 5) 72 l st w := za_n.at zcc_53 dX6_packAll_72 rfl
theorem f_53_74 (l : za_L) (st : List Value) (w : za_W) : za_n 53 (74, l, st, w) = za_go 77 l (.int (1500) :: st) w := (za_n.at zcc_53 dX6_packAll_74 rfl).trans (congrArg (fun x => za_go 77 l (.int x :: st) w) (by decide))
theorem f_53_77 (l : za_L) (st : List Value) (w : za_W) : za_n 53 (77, l, st, w) = za_x 53 (.if_icmp .ge 65) 77 l st w := za_n.at zcc_53 dX6_packAll_77 rfl
theorem f_53_80 (l : za_L) (st : List Value) (w : za_W) : za_n 53 (80, l, st, w) = za_x 53 (.iload 4) 80 l st w := za_n.at zcc_53 dX6_packAll_80 rfl
theorem f_53_82 (l : za_L) (st : List Value) (w : za_W) : za_n 53 (82, l, st, w) = za_x 53 (.aload_n 1) 82 l st w := za_n.at zcc_53 dX6_packAll_82 rfl
theorem f_53_83 (l : za_L) (st : List Value) (w : za_W) : za_n 53 (83, l, st, w) = za_x 53 (.getfield 83) 83 l st w := za_n.at zcc_53 dX6_packAll_83 rfl
theorem f_53_86 (l : za_L) (st : List Value) (w : za_W) : za_n 53 (86, l, st, w) = za_x 53 (.if_icmp .ge 56) 86 l st w := za_n.at zcc_53 dX6_packAll_86 rfl
theorem f_53_89 (l : za_L) (st : List Value) (w : za_W) : za_n 53 (89, l, st, w) = za_x 53 (.aload_n 0) 89 l st w := za_n.at zcc_53 dX6_packAll_89 rfl
theorem f_53_90 (l : za_L) (st : List Value) (w : za_W) : za_n 53 (90, l, st, w) = za_x 53 (.aload_n 1) 90 l st w := za_n.at zcc_53 dX6_packAll_90 rfl
theorem f_53_91 (l : za_L) (st : List Value) (w : za_W) : za_n 53 (91, l, st, w) = za_x 53 (.iload 4) 91 l st w := za_n.at zcc_53 dX6_packAll_91 rfl
theorem f_53_93 (l : za_L) (st : List Value) (w : za_W) : za_n 53 (93, l, st, w) = za_x 53 (.iload_n 2) 93 l st w := za_n.at zcc_53 dX6_packAll_93 rfl
theorem f_53_94 (l : za_L) (st : List Value) (w : za_W) : za_n 53 (94, l, st, w) = za_go 97 l (.int (200) :: st) w := (za_n.at zcc_53 dX6_packAll_94 rfl).trans (congrArg (fun x => za_go 97 l (.int x :: st) w) (by decide))
theorem f_53_97 (l : za_L) (st : List Value) (w : za_W) : za_n 53 (97, l, st, w) = za_x 53 (.imul) 97 l st w := za_n.at zcc_53 dX6_packAll_97 rfl
theorem f_53_98 (l : za_L) (st : List Value) (w : za_W) : za_n 53 (98, l, st, w) = za_x 53 (.invokevirtual 89) 98 l st w := za_n.at zcc_53 dX6_packAll_98 rfl
theorem f_53_101 (l : za_L) (st : List Value) (w : za_W) : za_n 53 (101, l, st, w) = za_x 53 (.istore 6) 101 l st w := za_n.at zcc_53 dX6_packAll_101 rfl
theorem f_53_103 (l : za_L) (st : List Value) (w : za_W) : za_n 53 (103, l, st, w) = za_x 53 (.aload_n 0) 103 l st w := za_n.at zcc_53 dX6_packAll_103 rfl
theorem f_53_104 (l : za_L) (st : List Value) (w : za_W) : za_n 53 (104, l, st, w) = za_x 53 (.aload_n 1) 104 l st w := za_n.at zcc_53 dX6_packAll_104 rfl
theorem f_53_105 (l : za_L) (st : List Value) (w : za_W) : za_n 53 (105, l, st, w) = za_x 53 (.iload 4) 105 l st w := za_n.at zcc_53 dX6_packAll_105 rfl
theorem f_53_107 (l : za_L) (st : List Value) (w : za_W) : za_n 53 (107, l, st, w) = za_x 53 (.iload 6) 107 l st w := za_n.at zcc_53 dX6_packAll_107 rfl
theorem f_53_109 (l : za_L) (st : List Value) (w : za_W) : za_n 53 (109, l, st, w) = za_x 53 (.invokestatic 93) 109 l st w := za_n.at zcc_53 dX6_packAll_109 rfl
theorem f_53_112 (l : za_L) (st : List Value) (w : za_W) : za_n 53 (112, l, st, w) = za_x 53 (.iload 6) 112 l st w := za_n.at zcc_53 dX6_packAll_112 rfl
theorem f_53_114 (l : za_L) (st : List Value) (w : za_W) : za_n 53 (114, l, st, w) = za_x 53 (.iload 4) 114 l st w := za_n.at zcc_53 dX6_packAll_114 rfl
theorem f_53_116 (l : za_L) (st : List Value) (w : za_W) : za_n 53 (116, l, st, w) = za_x 53 (.isub) 116 l st w := za_n.at zcc_53 dX6_packAll_116 rfl
theorem f_53_117 (l : za_L) (st : List Value) (w : za_W) : za_n 53 (117, l, st, w) = za_x 53 (.invokevirtual 96) 117 l st w := za_n.at zcc_53 dX6_packAll_117 rfl
theorem f_53_120 (l : za_L) (st : List Value) (w : za_W) : za_n 53 (120, l, st, w) = za_x 53 (.iload_n 3) 120 l st w := za_n.at zcc_53 dX6_packAll_120 rfl
theorem f_53_121 (l : za_L) (st : List Value) (w : za_W) : za_n 53 (121, l, st, w) = za_x 53 (.aload_n 0) 121 l st w := za_n.at zcc_53 dX6_packAll_121 rfl
theorem f_53_122 (l : za_L) (st : List Value) (w : za_W) : za_n 53 (122, l, st, w) = za_x 53 (.getfield 47) 122 l st w := za_n.at zcc_53 dX6_packAll_122 rfl
theorem f_53_125 (l : za_L) (st : List Value) (w : za_W) : za_n 53 (125, l, st, w) = za_x 53 (.getfield 100) 125 l st w := za_n.at zcc_53 dX6_packAll_125 rfl
theorem f_53_128 (l : za_L) (st : List Value) (w : za_W) : za_n 53 (128, l, st, w) = za_x 53 (.invokestatic 103) 128 l st w := za_n.at zcc_53 dX6_packAll_128 rfl
theorem f_53_131 (l : za_L) (st : List Value) (w : za_W) : za_n 53 (131, l, st, w) = za_x 53 (.istore_n 3) 131 l st w := za_n.at zcc_53 dX6_packAll_131 rfl
theorem f_53_132 (l : za_L) (st : List Value) (w : za_W) : za_n 53 (132, l, st, w) = za_x 53 (.iload 6) 132 l st w := za_n.at zcc_53 dX6_packAll_132 rfl
theorem f_53_134 (l : za_L) (st : List Value) (w : za_W) : za_n 53 (134, l, st, w) = za_x 53 (.istore 4) 134 l st w := za_n.at zcc_53 dX6_packAll_134 rfl
theorem f_53_136 (l : za_L) (st : List Value) (w : za_W) : za_n 53 (136, l, st, w) = za_x 53 (.iinc 5 1) 136 l st w := za_n.at zcc_53 dX6_packAll_136 rfl
theorem f_53_139 (l : za_L) (st : List Value) (w : za_W) : za_n 53 (139, l, st, w) = za_go 72 l st w := (za_n.at zcc_53 dX6_packAll_139 rfl).trans (za_jp.at (by decide))
theorem f_53_142 (l : za_L) (st : List Value) (w : za_W) : za_n 53 (142, l, st, w) = za_x 53 (.aload_n 0) 142 l st w := za_n.at zcc_53 dX6_packAll_142 rfl
theorem f_53_143 (l : za_L) (st : List Value) (w : za_W) : za_n 53 (143, l, st, w) = za_x 53 (.getfield 60) 143 l st w := za_n.at zcc_53 dX6_packAll_143 rfl
theorem f_53_146 (l : za_L) (st : List Value) (w : za_W) : za_n 53 (146, l, st, w) = za_go 148 l (.int (48) :: st) w := (za_n.at zcc_53 dX6_packAll_146 rfl).trans (congrArg (fun x => za_go 148 l (.int x :: st) w) (by decide))
theorem f_53_148 (l : za_L) (st : List Value) (w : za_W) : za_n 53 (148, l, st, w) = za_x 53 (.ldc2_w 107) 148 l st w := za_n.at zcc_53 dX6_packAll_148 rfl
theorem f_53_151 (l : za_L) (st : List Value) (w : za_W) : za_n 53 (151, l, st, w) = za_x 53 (.invokevirtual 75) 151 l st w := za_n.at zcc_53 dX6_packAll_151 rfl
theorem f_53_154 (l : za_L) (st : List Value) (w : za_W) : za_n 53 (154, l, st, w) = za_x 53 (.aload_n 0) 154 l st w := za_n.at zcc_53 dX6_packAll_154 rfl
theorem f_53_155 (l : za_L) (st : List Value) (w : za_W) : za_n 53 (155, l, st, w) = za_x 53 (.getfield 60) 155 l st w := za_n.at zcc_53 dX6_packAll_155 rfl
theorem f_53_158 (l : za_L) (st : List Value) (w : za_W) : za_n 53 (158, l, st, w) = za_go 160 l (.int (32) :: st) w := (za_n.at zcc_53 dX6_packAll_158 rfl).trans (congrArg (fun x => za_go 160 l (.int x :: st) w) (by decide))
theorem f_53_160 (l : za_L) (st : List Value) (w : za_W) : za_n 53 (160, l, st, w) = za_x 53 (.iload_n 3) 160 l st w := za_n.at zcc_53 dX6_packAll_160 rfl
theorem f_53_161 (l : za_L) (st : List Value) (w : za_W) : za_n 53 (161, l, st, w) = za_x 53 (.i2l) 161 l st w := za_n.at zcc_53 dX6_packAll_161 rfl
theorem f_53_162 (l : za_L) (st : List Value) (w : za_W) : za_n 53 (162, l, st, w) = za_x 53 (.ldc2_w 109) 162 l st w := za_n.at zcc_53 dX6_packAll_162 rfl
theorem f_53_165 (l : za_L) (st : List Value) (w : za_W) : za_n 53 (165, l, st, w) = za_x 53 (.land) 165 l st w := za_n.at zcc_53 dX6_packAll_165 rfl
theorem f_53_166 (l : za_L) (st : List Value) (w : za_W) : za_n 53 (166, l, st, w) = za_x 53 (.invokevirtual 75) 166 l st w := za_n.at zcc_53 dX6_packAll_166 rfl
theorem f_53_169 (l : za_L) (st : List Value) (w : za_W) : za_n 53 (169, l, st, w) = za_x 53 (.aload_n 0) 169 l st w := za_n.at zcc_53 dX6_packAll_169 rfl
theorem f_53_170 (l : za_L) (st : List Value) (w : za_W) : za_n 53 (170, l, st, w) = za_x 53 (.getfield 60) 170 l st w := za_n.at zcc_53 dX6_packAll_170 rfl
theorem f_53_173 (l : za_L) (st : List Value) (w : za_W) : za_n 53 (173, l, st, w) = za_x 53 (.invokevirtual 111) 173 l st w := za_n.at zcc_53 dX6_packAll_173 rfl
theorem f_53_176 (l : za_L) (st : List Value) (w : za_W) : za_n 53 (176, l, st, w) = za_x 53 (.aload_n 0) 176 l st w := za_n.at zcc_53 dX6_packAll_176 rfl
theorem f_53_177 (l : za_L) (st : List Value) (w : za_W) : za_n 53 (177, l, st, w) = za_x 53 (.getfield 60) 177 l st w := za_n.at zcc_53 dX6_packAll_177 rfl
theorem f_53_180 (l : za_L) (st : List Value) (w : za_W) : za_n 53 (180, l, st, w) = za_x 53 (.invokevirtual 114) 180 l st w := za_n.at zcc_53 dX6_packAll_180 rfl
theorem f_53_183 (l : za_L) (st : List Value) (w : za_W) : za_n 53 (183, l, st, w) = za_x 53 (.ireturn) 183 l st w := za_n.at zcc_53 dX6_packAll_183 rfl
theorem f_54_0 (l : za_L) (st : List Value) (w : za_W) : za_n 54 (0, l, st, w) = za_go 1 l (.int (-1) :: st) w := (za_n.at zcc_54 dX6_sumBetween_0 rfl).trans (congrArg (fun x => za_go 1 l (.int x :: st) w) (by decide))
theorem f_54_1 (l : za_L) (st : List Value) (w : za_W) : za_n 54 (1, l, st, w) = za_x 54 (.istore_n 3) 1 l st w := za_n.at zcc_54 dX6_sumBetween_1 rfl
theorem f_54_2 (l : za_L) (st : List Value) (w : za_W) : za_n 54 (2, l, st, w) = za_x 54 (.iload_n 1) 2 l st w := za_n.at zcc_54 dX6_sumBetween_2 rfl
theorem f_54_3 (l : za_L) (st : List Value) (w : za_W) : za_n 54 (3, l, st, w) = za_x 54 (.istore 4) 3 l st w := za_n.at zcc_54 dX6_sumBetween_3 rfl
theorem f_54_5 (l : za_L) (st : List Value) (w : za_W) : za_n 54 (5, l, st, w) = za_x 54 (.iload 4) 5 l st w := za_n.at zcc_54 dX6_sumBetween_5 rfl
theorem f_54_7 (l : za_L) (st : List Value) (w : za_W) : za_n 54 (7, l, st, w) = za_x 54 (.iload_n 2) 7 l st w := za_n.at zcc_54 dX6_sumBetween_7 rfl
theorem f_54_8 (l : za_L) (st : List Value) (w : za_W) : za_n 54 (8, l, st, w) = za_x 54 (.if_icmp .ge 20) 8 l st w := za_n.at zcc_54 dX6_sumBetween_8 rfl
theorem f_54_11 (l : za_L) (st : List Value) (w : za_W) : za_n 54 (11, l, st, w) = za_x 54 (.iload_n 3) 11 l st w := za_n.at zcc_54 dX6_sumBetween_11 rfl
theorem f_54_12 (l : za_L) (st : List Value) (w : za_W) : za_n 54 (12, l, st, w) = za_x 54 (.aload_n 0) 12 l st w := za_n.at zcc_54 dX6_sumBetween_12 rfl
theorem f_54_13 (l : za_L) (st : List Value) (w : za_W) : za_n 54 (13, l, st, w) = za_x 54 (.iload 4) 13 l st w := za_n.at zcc_54 dX6_sumBetween_13 rfl
theorem f_54_15 (l : za_L) (st : List Value) (w : za_W) : za_n 54 (15, l, st, w) = za_x 54 (.invokevirtual 118) 15 l st w := za_n.at zcc_54 dX6_sumBetween_15 rfl
theorem f_54_18 (l : za_L) (st : List Value) (w : za_W) : za_n 54 (18, l, st, w) = za_x 54 (.invokestatic 122) 18 l st w := za_n.at zcc_54 dX6_sumBetween_18 rfl
theorem f_54_21 (l : za_L) (st : List Value) (w : za_W) : za_n 54 (21, l, st, w) = za_x 54 (.istore_n 3) 21 l st w := za_n.at zcc_54 dX6_sumBetween_21 rfl
theorem f_54_22 (l : za_L) (st : List Value) (w : za_W) : za_n 54 (22, l, st, w) = za_x 54 (.iinc 4 1) 22 l st w := za_n.at zcc_54 dX6_sumBetween_22 rfl
theorem f_54_25 (l : za_L) (st : List Value) (w : za_W) : za_n 54 (25, l, st, w) = za_go 5 l st w := (za_n.at zcc_54 dX6_sumBetween_25 rfl).trans (za_jp.at (by decide))
theorem f_54_28 (l : za_L) (st : List Value) (w : za_W) : za_n 54 (28, l, st, w) = za_x 54 (.iload_n 3) 28 l st w := za_n.at zcc_54 dX6_sumBetween_28 rfl
theorem f_54_29 (l : za_L) (st : List Value) (w : za_W) : za_n 54 (29, l, st, w) = za_go 30 l (.int (-1) :: st) w := (za_n.at zcc_54 dX6_sumBetween_29 rfl).trans (congrArg (fun x => za_go 30 l (.int x :: st) w) (by decide))
theorem f_54_30 (l : za_L) (st : List Value) (w : za_W) : za_n 54 (30, l, st, w) = za_x 54 (.ixor) 30 l st w := za_n.at zcc_54 dX6_sumBetween_30 rfl
theorem f_54_31 (l : za_L) (st : List Value) (w : za_W) : za_n 54 (31, l, st, w) = za_x 54 (.ireturn) 31 l st w := za_n.at zcc_54 dX6_sumBetween_31 rfl
theorem f_55_0 (l : za_L) (st : List Value) (w : za_W) : za_n 55 (0, l, st, w) = za_x 55 (.aload_n 0) 0 l st w := za_n.at zcc_55 dX6_shortenRuns_0 rfl
theorem f_55_1 (l : za_L) (st : List Value) (w : za_W) : za_n 55 (1, l, st, w) = za_go 2 l (.int (0) :: st) w := (za_n.at zcc_55 dX6_shortenRuns_1 rfl).trans (congrArg (fun x => za_go 2 l (.int x :: st) w) (by decide))
theorem f_55_2 (l : za_L) (st : List Value) (w : za_W) : za_n 55 (2, l, st, w) = za_x 55 (.putfield 125) 2 l st w := za_n.at zcc_55 dX6_shortenRuns_2 rfl
theorem f_55_5 (l : za_L) (st : List Value) (w : za_W) : za_n 55 (5, l, st, w) = za_x 55 (.iload_n 2) 5 l st w := za_n.at zcc_55 dX6_shortenRuns_5 rfl
theorem f_55_6 (l : za_L) (st : List Value) (w : za_W) : za_n 55 (6, l, st, w) = za_x 55 (.istore 4) 6 l st w := za_n.at zcc_55 dX6_shortenRuns_6 rfl
theorem f_55_8 (l : za_L) (st : List Value) (w : za_W) : za_n 55 (8, l, st, w) = za_x 55 (.iload 4) 8 l st w := za_n.at zcc_55 dX6_shortenRuns_8 rfl
theorem f_55_10 (l : za_L) (st : List Value) (w : za_W) : za_n 55 (10, l, st, w) = za_x 55 (.aload_n 1) 10 l st w := za_n.at zcc_55 dX6_shortenRuns_10 rfl
theorem f_55_11 (l : za_L) (st : List Value) (w : za_W) : za_n 55 (11, l, st, w) = za_x 55 (.getfield 83) 11 l st w := za_n.at zcc_55 dX6_shortenRuns_11 rfl
theorem f_55_14 (l : za_L) (st : List Value) (w : za_W) : za_n 55 (14, l, st, w) = za_x 55 (.if_icmp .ge 142) 14 l st w := za_n.at zcc_55 dX6_shortenRuns_14 rfl
theorem f_55_17 (l : za_L) (st : List Value) (w : za_W) : za_n 55 (17, l, st, w) = za_x 55 (.aload_n 1) 17 l st w := za_n.at zcc_55 dX6_shortenRuns_17 rfl
theorem f_55_18 (l : za_L) (st : List Value) (w : za_W) : za_n 55 (18, l, st, w) = za_x 55 (.iload 4) 18 l st w := za_n.at zcc_55 dX6_shortenRuns_18 rfl
theorem f_55_20 (l : za_L) (st : List Value) (w : za_W) : za_n 55 (20, l, st, w) = za_x 55 (.invokestatic 126) 20 l st w := za_n.at zcc_55 dX6_shortenRuns_20 rfl
theorem f_55_23 (l : za_L) (st : List Value) (w : za_W) : za_n 55 (23, l, st, w) = za_x 55 (.istore 5) 23 l st w := za_n.at zcc_55 dX6_shortenRuns_23 rfl
theorem f_55_25 (l : za_L) (st : List Value) (w : za_W) : za_n 55 (25, l, st, w) = za_x 55 (.iload 5) 25 l st w := za_n.at zcc_55 dX6_shortenRuns_25 rfl
theorem f_55_27 (l : za_L) (st : List Value) (w : za_W) : za_n 55 (27, l, st, w) = za_go 28 l (.int (4) :: st) w := (za_n.at zcc_55 dX6_shortenRuns_27 rfl).trans (congrArg (fun x => za_go 28 l (.int x :: st) w) (by decide))
theorem f_55_28 (l : za_L) (st : List Value) (w : za_W) : za_n 55 (28, l, st, w) = za_x 55 (.if_icmp .ge 8) 28 l st w := za_n.at zcc_55 dX6_shortenRuns_28 rfl
theorem f_55_31 (l : za_L) (st : List Value) (w : za_W) : za_n 55 (31, l, st, w) = za_x 55 (.iload 5) 31 l st w := za_n.at zcc_55 dX6_shortenRuns_31 rfl
theorem f_55_33 (l : za_L) (st : List Value) (w : za_W) : za_n 55 (33, l, st, w) = za_go 37 l st w := (za_n.at zcc_55 dX6_shortenRuns_33 rfl).trans (za_jp.at (by decide))
theorem f_55_36 (l : za_L) (st : List Value) (w : za_W) : za_n 55 (36, l, st, w) = za_go 37 l (.int (5) :: st) w := (za_n.at zcc_55 dX6_shortenRuns_36 rfl).trans (congrArg (fun x => za_go 37 l (.int x :: st) w) (by decide))
theorem f_55_37 (l : za_L) (st : List Value) (w : za_W) : za_n 55 (37, l, st, w) = za_x 55 (.istore 6) 37 l st w := za_n.at zcc_55 dX6_shortenRuns_37 rfl
theorem f_55_39 (l : za_L) (st : List Value) (w : za_W) : za_n 55 (39, l, st, w) = za_x 55 (.aload_n 0) 39 l st w := za_n.at zcc_55 dX6_shortenRuns_39 rfl
theorem f_55_40 (l : za_L) (st : List Value) (w : za_W) : za_n 55 (40, l, st, w) = za_x 55 (.getfield 125) 40 l st w := za_n.at zcc_55 dX6_shortenRuns_40 rfl
theorem f_55_43 (l : za_L) (st : List Value) (w : za_W) : za_n 55 (43, l, st, w) = za_x 55 (.iload 6) 43 l st w := za_n.at zcc_55 dX6_shortenRuns_43 rfl
theorem f_55_45 (l : za_L) (st : List Value) (w : za_W) : za_n 55 (45, l, st, w) = za_x 55 (.iadd) 45 l st w := za_n.at zcc_55 dX6_shortenRuns_45 rfl
theorem f_55_46 (l : za_L) (st : List Value) (w : za_W) : za_n 55 (46, l, st, w) = za_x 55 (.iload_n 3) 46 l st w := za_n.at zcc_55 dX6_shortenRuns_46 rfl
theorem f_55_47 (l : za_L) (st : List Value) (w : za_W) : za_n 55 (47, l, st, w) = za_x 55 (.if_icmp .gt 18) 47 l st w := za_n.at zcc_55 dX6_shortenRuns_47 rfl
theorem f_55_50 (l : za_L) (st : List Value) (w : za_W) : za_n 55 (50, l, st, w) = za_x 55 (.aload_n 0) 50 l st w := za_n.at zcc_55 dX6_shortenRuns_50 rfl
theorem f_55_51 (l : za_L) (st : List Value) (w : za_W) : za_n 55 (51, l, st, w) = za_x 55 (.getfield 125) 51 l st w := za_n.at zcc_55 dX6_shortenRuns_51 rfl
theorem f_55_54 (l : za_L) (st : List Value) (w : za_W) : za_n 55 (54, l, st, w) = za_x 55 (.iload 6) 54 l st w := za_n.at zcc_55 dX6_shortenRuns_54 rfl
theorem f_55_56 (l : za_L) (st : List Value) (w : za_W) : za_n 55 (56, l, st, w) = za_x 55 (.iadd) 56 l st w := za_n.at zcc_55 dX6_shortenRuns_56 rfl
theorem f_55_57 (l : za_L) (st : List Value) (w : za_W) : za_n 55 (57, l, st, w) = za_x 55 (.aload_n 0) 57 l st w := za_n.at zcc_55 dX6_shortenRuns_57 rfl
theorem f_55_58 (l : za_L) (st : List Value) (w : za_W) : za_n 55 (58, l, st, w) = za_x 55 (.getfield 40) 58 l st w := za_n.at zcc_55 dX6_shortenRuns_58 rfl
theorem f_55_61 (l : za_L) (st : List Value) (w : za_W) : za_n 55 (61, l, st, w) = za_x 55 (.arraylength) 61 l st w := za_n.at zcc_55 dX6_shortenRuns_61 rfl
theorem f_55_62 (l : za_L) (st : List Value) (w : za_W) : za_n 55 (62, l, st, w) = za_x 55 (.if_icmp .le 6) 62 l st w := za_n.at zcc_55 dX6_shortenRuns_62 rfl
theorem f_55_65 (l : za_L) (st : List Value) (w : za_W) : za_n 55 (65, l, st, w) = za_x 55 (.iload 4) 65 l st w := za_n.at zcc_55 dX6_shortenRuns_65 rfl
theorem f_55_67 (l : za_L) (st : List Value) (w : za_W) : za_n 55 (67, l, st, w) = za_x 55 (.ireturn) 67 l st w := za_n.at zcc_55 dX6_shortenRuns_67 rfl
theorem f_55_68 (l : za_L) (st : List Value) (w : za_W) : za_n 55 (68, l, st, w) = za_go 69 l (.int (0) :: st) w := (za_n.at zcc_55 dX6_shortenRuns_68 rfl).trans (congrArg (fun x => za_go 69 l (.int x :: st) w) (by decide))
theorem f_55_69 (l : za_L) (st : List Value) (w : za_W) : za_n 55 (69, l, st, w) = za_x 55 (.istore 7) 69 l st w := za_n.at zcc_55 dX6_shortenRuns_69 rfl
theorem f_55_71 (l : za_L) (st : List Value) (w : za_W) : za_n 55 (71, l, st, w) = za_x 55 (.iload 7) 71 l st w := za_n.at zcc_55 dX6_shortenRuns_71 rfl
theorem f_55_73 (l : za_L) (st : List Value) (w : za_W) : za_n 55 (73, l, st, w) = za_x 55 (.iload 5) 73 l st w := za_n.at zcc_55 dX6_shortenRuns_73 rfl
theorem f_55_75 (l : za_L) (st : List Value) (w : za_W) : za_n 55 (75, l, st, w) = za_x 55 (.if_icmp .ge 41) 75 l st w := za_n.at zcc_55 dX6_shortenRuns_75 rfl
theorem f_55_78 (l : za_L) (st : List Value) (w : za_W) : za_n 55 (78, l, st, w) = za_x 55 (.iload 7) 78 l st w := za_n.at zcc_55 dX6_shortenRuns_78 rfl
theorem f_55_80 (l : za_L) (st : List Value) (w : za_W) : za_n 55 (80, l, st, w) = za_go 81 l (.int (4) :: st) w := (za_n.at zcc_55 dX6_shortenRuns_80 rfl).trans (congrArg (fun x => za_go 81 l (.int x :: st) w) (by decide))
theorem f_55_81 (l : za_L) (st : List Value) (w : za_W) : za_n 55 (81, l, st, w) = za_x 55 (.if_icmp .ge 35) 81 l st w := za_n.at zcc_55 dX6_shortenRuns_81 rfl
theorem f_55_84 (l : za_L) (st : List Value) (w : za_W) : za_n 55 (84, l, st, w) = za_x 55 (.aload_n 0) 84 l st w := za_n.at zcc_55 dX6_shortenRuns_84 rfl
theorem f_55_85 (l : za_L) (st : List Value) (w : za_W) : za_n 55 (85, l, st, w) = za_x 55 (.getfield 40) 85 l st w := za_n.at zcc_55 dX6_shortenRuns_85 rfl
theorem f_55_88 (l : za_L) (st : List Value) (w : za_W) : za_n 55 (88, l, st, w) = za_x 55 (.aload_n 0) 88 l st w := za_n.at zcc_55 dX6_shortenRuns_88 rfl
theorem f_55_89 (l : za_L) (st : List Value) (w : za_W) : za_n 55 (89, l, st, w) = za_x 55 (.getfield 125) 89 l st w := za_n.at zcc_55 dX6_shortenRuns_89 rfl
theorem f_55_92 (l : za_L) (st : List Value) (w : za_W) : za_n 55 (92, l, st, w) = za_x 55 (.aload_n 1) 92 l st w := za_n.at zcc_55 dX6_shortenRuns_92 rfl
theorem f_55_93 (l : za_L) (st : List Value) (w : za_W) : za_n 55 (93, l, st, w) = za_x 55 (.iload 4) 93 l st w := za_n.at zcc_55 dX6_shortenRuns_93 rfl
theorem f_55_95 (l : za_L) (st : List Value) (w : za_W) : za_n 55 (95, l, st, w) = za_x 55 (.invokevirtual 118) 95 l st w := za_n.at zcc_55 dX6_shortenRuns_95 rfl
theorem f_55_98 (l : za_L) (st : List Value) (w : za_W) : za_n 55 (98, l, st, w) = za_x 55 (.i2b) 98 l st w := za_n.at zcc_55 dX6_shortenRuns_98 rfl
theorem f_55_99 (l : za_L) (st : List Value) (w : za_W) : za_n 55 (99, l, st, w) = za_x 55 (.bastore) 99 l st w := za_n.at zcc_55 dX6_shortenRuns_99 rfl
theorem f_55_100 (l : za_L) (st : List Value) (w : za_W) : za_n 55 (100, l, st, w) = za_x 55 (.aload_n 0) 100 l st w := za_n.at zcc_55 dX6_shortenRuns_100 rfl
theorem f_55_101 (l : za_L) (st : List Value) (w : za_W) : za_n 55 (101, l, st, w) = za_x 55 (.dup) 101 l st w := za_n.at zcc_55 dX6_shortenRuns_101 rfl
theorem f_55_102 (l : za_L) (st : List Value) (w : za_W) : za_n 55 (102, l, st, w) = za_x 55 (.getfield 125) 102 l st w := za_n.at zcc_55 dX6_shortenRuns_102 rfl
theorem f_55_105 (l : za_L) (st : List Value) (w : za_W) : za_n 55 (105, l, st, w) = za_go 106 l (.int (1) :: st) w := (za_n.at zcc_55 dX6_shortenRuns_105 rfl).trans (congrArg (fun x => za_go 106 l (.int x :: st) w) (by decide))
theorem f_55_106 (l : za_L) (st : List Value) (w : za_W) : za_n 55 (106, l, st, w) = za_x 55 (.iadd) 106 l st w := za_n.at zcc_55 dX6_shortenRuns_106 rfl
theorem f_55_107 (l : za_L) (st : List Value) (w : za_W) : za_n 55 (107, l, st, w) = za_x 55 (.putfield 125) 107 l st w := za_n.at zcc_55 dX6_shortenRuns_107 rfl
theorem f_55_110 (l : za_L) (st : List Value) (w : za_W) : za_n 55 (110, l, st, w) = za_x 55 (.iinc 7 1) 110 l st w := za_n.at zcc_55 dX6_shortenRuns_110 rfl
theorem f_55_113 (l : za_L) (st : List Value) (w : za_W) : za_n 55 (113, l, st, w) = za_go 71 l st w := (za_n.at zcc_55 dX6_shortenRuns_113 rfl).trans (za_jp.at (by decide))
theorem f_55_116 (l : za_L) (st : List Value) (w : za_W) : za_n 55 (116, l, st, w) = za_x 55 (.iload 5) 116 l st w := za_n.at zcc_55 dX6_shortenRuns_116 rfl
theorem f_55_118 (l : za_L) (st : List Value) (w : za_W) : za_n 55 (118, l, st, w) = za_go 119 l (.int (4) :: st) w := (za_n.at zcc_55 dX6_shortenRuns_118 rfl).trans (congrArg (fun x => za_go 119 l (.int x :: st) w) (by decide))
theorem f_55_119 (l : za_L) (st : List Value) (w : za_W) : za_n 55 (119, l, st, w) = za_x 55 (.if_icmp .lt 27) 119 l st w := za_n.at zcc_55 dX6_shortenRuns_119 rfl
theorem f_55_122 (l : za_L) (st : List Value) (w : za_W) : za_n 55 (122, l, st, w) = za_x 55 (.aload_n 0) 122 l st w := za_n.at zcc_55 dX6_shortenRuns_122 rfl
theorem f_55_123 (l : za_L) (st : List Value) (w : za_W) : za_n 55 (123, l, st, w) = za_x 55 (.getfield 40) 123 l st w := za_n.at zcc_55 dX6_shortenRuns_123 rfl
theorem f_55_126 (l : za_L) (st : List Value) (w : za_W) : za_n 55 (126, l, st, w) = za_x 55 (.aload_n 0) 126 l st w := za_n.at zcc_55 dX6_shortenRuns_126 rfl
theorem f_55_127 (l : za_L) (st : List Value) (w : za_W) : za_n 55 (127, l, st, w) = za_x 55 (.getfield 125) 127 l st w := za_n.at zcc_55 dX6_shortenRuns_127 rfl
theorem f_55_130 (l : za_L) (st : List Value) (w : za_W) : za_n 55 (130, l, st, w) = za_x 55 (.iload 5) 130 l st w := za_n.at zcc_55 dX6_shortenRuns_130 rfl
theorem f_55_132 (l : za_L) (st : List Value) (w : za_W) : za_n 55 (132, l, st, w) = za_go 133 l (.int (4) :: st) w := (za_n.at zcc_55 dX6_shortenRuns_132 rfl).trans (congrArg (fun x => za_go 133 l (.int x :: st) w) (by decide))
theorem f_55_133 (l : za_L) (st : List Value) (w : za_W) : za_n 55 (133, l, st, w) = za_x 55 (.isub) 133 l st w := za_n.at zcc_55 dX6_shortenRuns_133 rfl
theorem f_55_134 (l : za_L) (st : List Value) (w : za_W) : za_n 55 (134, l, st, w) = za_x 55 (.i2b) 134 l st w := za_n.at zcc_55 dX6_shortenRuns_134 rfl
theorem f_55_135 (l : za_L) (st : List Value) (w : za_W) : za_n 55 (135, l, st, w) = za_x 55 (.bastore) 135 l st w := za_n.at zcc_55 dX6_shortenRuns_135 rfl
theorem f_55_136 (l : za_L) (st : List Value) (w : za_W) : za_n 55 (136, l, st, w) = za_x 55 (.aload_n 0) 136 l st w := za_n.at zcc_55 dX6_shortenRuns_136 rfl
theorem f_55_137 (l : za_L) (st : List Value) (w : za_W) : za_n 55 (137, l, st, w) = za_x 55 (.dup) 137 l st w := za_n.at zcc_55 dX6_shortenRuns_137 rfl
theorem f_55_138 (l : za_L) (st : List Value) (w : za_W) : za_n 55 (138, l, st, w) = za_x 55 (.getfield 125) 138 l st w := za_n.at zcc_55 dX6_shortenRuns_138 rfl
theorem f_55_141 (l : za_L) (st : List Value) (w : za_W) : za_n 55 (141, l, st, w) = za_go 142 l (.int (1) :: st) w := (za_n.at zcc_55 dX6_shortenRuns_141 rfl).trans (congrArg (fun x => za_go 142 l (.int x :: st) w) (by decide))
theorem f_55_142 (l : za_L) (st : List Value) (w : za_W) : za_n 55 (142, l, st, w) = za_x 55 (.iadd) 142 l st w := za_n.at zcc_55 dX6_shortenRuns_142 rfl
theorem f_55_143 (l : za_L) (st : List Value) (w : za_W) : za_n 55 (143, l, st, w) = za_x 55 (.putfield 125) 143 l st w := za_n.at zcc_55 dX6_shortenRuns_143 rfl
theorem f_55_146 (l : za_L) (st : List Value) (w : za_W) : za_n 55 (146, l, st, w) = za_x 55 (.iload 4) 146 l st w := za_n.at zcc_55 dX6_shortenRuns_146 rfl
theorem f_55_148 (l : za_L) (st : List Value) (w : za_W) : za_n 55 (148, l, st, w) = za_x 55 (.iload 5) 148 l st w := za_n.at zcc_55 dX6_shortenRuns_148 rfl
theorem f_55_150 (l : za_L) (st : List Value) (w : za_W) : za_n 55 (150, l, st, w) = za_x 55 (.iadd) 150 l st w := za_n.at zcc_55 dX6_shortenRuns_150 rfl
theorem f_55_151 (l : za_L) (st : List Value) (w : za_W) : za_n 55 (151, l, st, w) = za_x 55 (.istore 4) 151 l st w := za_n.at zcc_55 dX6_shortenRuns_151 rfl
theorem f_55_153 (l : za_L) (st : List Value) (w : za_W) : za_n 55 (153, l, st, w) = za_go 8 l st w := (za_n.at zcc_55 dX6_shortenRuns_153 rfl).trans (za_jp.at (by decide))
theorem f_55_156 (l : za_L) (st : List Value) (w : za_W) : za_n 55 (156, l, st, w) = za_x 55 (.iload 4) 156 l st w := za_n.at zcc_55 dX6_shortenRuns_156 rfl
theorem f_55_158 (l : za_L) (st : List Value) (w : za_W) : za_n 55 (158, l, st, w) = za_x 55 (.ireturn) 158 l st w := za_n.at zcc_55 dX6_shortenRuns_158 rfl
theorem f_56_0 (l : za_L) (st : List Value) (w : za_W) : za_n 56 (0, l, st, w) = za_go 1 l (.int (1) :: st) w := (za_n.at zcc_56 dX6_runFrom_0 rfl).trans (congrArg (fun x => za_go 1 l (.int x :: st) w) (by decide))
theorem f_56_1 (l : za_L) (st : List Value) (w : za_W) : za_n 56 (1, l, st, w) = za_x 56 (.istore_n 2) 1 l st w := za_n.at zcc_56 dX6_runFrom_1 rfl
theorem f_56_2 (l : za_L) (st : List Value) (w : za_W) : za_n 56 (2, l, st, w) = za_x 56 (.iload_n 2) 2 l st w := za_n.at zcc_56 dX6_runFrom_2 rfl
theorem f_56_3 (l : za_L) (st : List Value) (w : za_W) : za_n 56 (3, l, st, w) = za_go 6 l (.int (255) :: st) w := (za_n.at zcc_56 dX6_runFrom_3 rfl).trans (congrArg (fun x => za_go 6 l (.int x :: st) w) (by decide))
theorem f_56_6 (l : za_L) (st : List Value) (w : za_W) : za_n 56 (6, l, st, w) = za_x 56 (.if_icmp .ge 34) 6 l st w := za_n.at zcc_56 dX6_runFrom_6 rfl
theorem f_56_9 (l : za_L) (st : List Value) (w : za_W) : za_n 56 (9, l, st, w) = za_x 56 (.iload_n 1) 9 l st w := za_n.at zcc_56 dX6_runFrom_9 rfl
theorem f_56_10 (l : za_L) (st : List Value) (w : za_W) : za_n 56 (10, l, st, w) = za_x 56 (.iload_n 2) 10 l st w := za_n.at zcc_56 dX6_runFrom_10 rfl
theorem f_56_11 (l : za_L) (st : List Value) (w : za_W) : za_n 56 (11, l, st, w) = za_x 56 (.iadd) 11 l st w := za_n.at zcc_56 dX6_runFrom_11 rfl
theorem f_56_12 (l : za_L) (st : List Value) (w : za_W) : za_n 56 (12, l, st, w) = za_x 56 (.aload_n 0) 12 l st w := za_n.at zcc_56 dX6_runFrom_12 rfl
theorem f_56_13 (l : za_L) (st : List Value) (w : za_W) : za_n 56 (13, l, st, w) = za_x 56 (.getfield 83) 13 l st w := za_n.at zcc_56 dX6_runFrom_13 rfl
theorem f_56_16 (l : za_L) (st : List Value) (w : za_W) : za_n 56 (16, l, st, w) = za_x 56 (.if_icmp .ge 24) 16 l st w := za_n.at zcc_56 dX6_runFrom_16 rfl
theorem f_56_19 (l : za_L) (st : List Value) (w : za_W) : za_n 56 (19, l, st, w) = za_x 56 (.aload_n 0) 19 l st w := za_n.at zcc_56 dX6_runFrom_19 rfl
theorem f_56_20 (l : za_L) (st : List Value) (w : za_W) : za_n 56 (20, l, st, w) = za_x 56 (.iload_n 1) 20 l st w := za_n.at zcc_56 dX6_runFrom_20 rfl
theorem f_56_21 (l : za_L) (st : List Value) (w : za_W) : za_n 56 (21, l, st, w) = za_x 56 (.iload_n 2) 21 l st w := za_n.at zcc_56 dX6_runFrom_21 rfl
theorem f_56_22 (l : za_L) (st : List Value) (w : za_W) : za_n 56 (22, l, st, w) = za_x 56 (.iadd) 22 l st w := za_n.at zcc_56 dX6_runFrom_22 rfl
theorem f_56_23 (l : za_L) (st : List Value) (w : za_W) : za_n 56 (23, l, st, w) = za_x 56 (.invokevirtual 118) 23 l st w := za_n.at zcc_56 dX6_runFrom_23 rfl
theorem f_56_26 (l : za_L) (st : List Value) (w : za_W) : za_n 56 (26, l, st, w) = za_x 56 (.aload_n 0) 26 l st w := za_n.at zcc_56 dX6_runFrom_26 rfl
theorem f_56_27 (l : za_L) (st : List Value) (w : za_W) : za_n 56 (27, l, st, w) = za_x 56 (.iload_n 1) 27 l st w := za_n.at zcc_56 dX6_runFrom_27 rfl
theorem f_56_28 (l : za_L) (st : List Value) (w : za_W) : za_n 56 (28, l, st, w) = za_x 56 (.invokevirtual 118) 28 l st w := za_n.at zcc_56 dX6_runFrom_28 rfl
theorem f_56_31 (l : za_L) (st : List Value) (w : za_W) : za_n 56 (31, l, st, w) = za_x 56 (.if_icmp .ne 9) 31 l st w := za_n.at zcc_56 dX6_runFrom_31 rfl
theorem f_56_34 (l : za_L) (st : List Value) (w : za_W) : za_n 56 (34, l, st, w) = za_x 56 (.iinc 2 1) 34 l st w := za_n.at zcc_56 dX6_runFrom_34 rfl
theorem f_56_37 (l : za_L) (st : List Value) (w : za_W) : za_n 56 (37, l, st, w) = za_go 2 l st w := (za_n.at zcc_56 dX6_runFrom_37 rfl).trans (za_jp.at (by decide))
theorem f_56_40 (l : za_L) (st : List Value) (w : za_W) : za_n 56 (40, l, st, w) = za_x 56 (.iload_n 2) 40 l st w := za_n.at zcc_56 dX6_runFrom_40 rfl
theorem f_56_41 (l : za_L) (st : List Value) (w : za_W) : za_n 56 (41, l, st, w) = za_x 56 (.ireturn) 41 l st w := za_n.at zcc_56 dX6_runFrom_41 rfl
theorem f_57_0 (l : za_L) (st : List Value) (w : za_W) : za_n 57 (0, l, st, w) = za_x 57 (.aload_n 0) 0 l st w := za_n.at zcc_57 dX6_packBlock_0 rfl
theorem f_57_1 (l : za_L) (st : List Value) (w : za_W) : za_n 57 (1, l, st, w) = za_x 57 (.getfield 51) 1 l st w := za_n.at zcc_57 dX6_packBlock_1 rfl
theorem f_57_4 (l : za_L) (st : List Value) (w : za_W) : za_n 57 (4, l, st, w) = za_x 57 (.aload_n 0) 4 l st w := za_n.at zcc_57 dX6_packBlock_4 rfl
theorem f_57_5 (l : za_L) (st : List Value) (w : za_W) : za_n 57 (5, l, st, w) = za_x 57 (.getfield 40) 5 l st w := za_n.at zcc_57 dX6_packBlock_5 rfl
theorem f_57_8 (l : za_L) (st : List Value) (w : za_W) : za_n 57 (8, l, st, w) = za_x 57 (.aload_n 0) 8 l st w := za_n.at zcc_57 dX6_packBlock_8 rfl
theorem f_57_9 (l : za_L) (st : List Value) (w : za_W) : za_n 57 (9, l, st, w) = za_x 57 (.getfield 125) 9 l st w := za_n.at zcc_57 dX6_packBlock_9 rfl
theorem f_57_12 (l : za_L) (st : List Value) (w : za_W) : za_n 57 (12, l, st, w) = za_x 57 (.invokevirtual 130) 12 l st w := za_n.at zcc_57 dX6_packBlock_12 rfl
theorem f_57_15 (l : za_L) (st : List Value) (w : za_W) : za_n 57 (15, l, st, w) = za_x 57 (.aload_n 0) 15 l st w := za_n.at zcc_57 dX6_packBlock_15 rfl
theorem f_57_16 (l : za_L) (st : List Value) (w : za_W) : za_n 57 (16, l, st, w) = za_x 57 (.invokevirtual 136) 16 l st w := za_n.at zcc_57 dX6_packBlock_16 rfl
theorem f_57_19 (l : za_L) (st : List Value) (w : za_W) : za_n 57 (19, l, st, w) = za_x 57 (.aload_n 0) 19 l st w := za_n.at zcc_57 dX6_packBlock_19 rfl
theorem f_57_20 (l : za_L) (st : List Value) (w : za_W) : za_n 57 (20, l, st, w) = za_x 57 (.invokevirtual 139) 20 l st w := za_n.at zcc_57 dX6_packBlock_20 rfl
theorem f_57_23 (l : za_L) (st : List Value) (w : za_W) : za_n 57 (23, l, st, w) = za_x 57 (.aload_n 0) 23 l st w := za_n.at zcc_57 dX6_packBlock_23 rfl
theorem f_57_24 (l : za_L) (st : List Value) (w : za_W) : za_n 57 (24, l, st, w) = za_x 57 (.getfield 47) 24 l st w := za_n.at zcc_57 dX6_packBlock_24 rfl
theorem f_57_27 (l : za_L) (st : List Value) (w : za_W) : za_n 57 (27, l, st, w) = za_x 57 (.getfield 142) 27 l st w := za_n.at zcc_57 dX6_packBlock_27 rfl
theorem f_57_30 (l : za_L) (st : List Value) (w : za_W) : za_n 57 (30, l, st, w) = za_x 57 (.astore_n 3) 30 l st w := za_n.at zcc_57 dX6_packBlock_30 rfl
theorem f_57_31 (l : za_L) (st : List Value) (w : za_W) : za_n 57 (31, l, st, w) = za_x 57 (.aload_n 3) 31 l st w := za_n.at zcc_57 dX6_packBlock_31 rfl
theorem f_57_32 (l : za_L) (st : List Value) (w : za_W) : za_n 57 (32, l, st, w) = za_x 57 (.aload_n 0) 32 l st w := za_n.at zcc_57 dX6_packBlock_32 rfl
theorem f_57_33 (l : za_L) (st : List Value) (w : za_W) : za_n 57 (33, l, st, w) = za_x 57 (.getfield 14) 33 l st w := za_n.at zcc_57 dX6_packBlock_33 rfl
theorem f_57_36 (l : za_L) (st : List Value) (w : za_W) : za_n 57 (36, l, st, w) = za_x 57 (.getfield 146) 36 l st w := za_n.at zcc_57 dX6_packBlock_36 rfl
theorem f_57_39 (l : za_L) (st : List Value) (w : za_W) : za_n 57 (39, l, st, w) = za_go 40 l (.int (2) :: st) w := (za_n.at zcc_57 dX6_packBlock_39 rfl).trans (congrArg (fun x => za_go 40 l (.int x :: st) w) (by decide))
theorem f_57_40 (l : za_L) (st : List Value) (w : za_W) : za_n 57 (40, l, st, w) = za_x 57 (.iadd) 40 l st w := za_n.at zcc_57 dX6_packBlock_40 rfl
theorem f_57_41 (l : za_L) (st : List Value) (w : za_W) : za_n 57 (41, l, st, w) = za_x 57 (.putfield 147) 41 l st w := za_n.at zcc_57 dX6_packBlock_41 rfl
theorem f_57_44 (l : za_L) (st : List Value) (w : za_W) : za_n 57 (44, l, st, w) = za_x 57 (.aload_n 0) 44 l st w := za_n.at zcc_57 dX6_packBlock_44 rfl
theorem f_57_45 (l : za_L) (st : List Value) (w : za_W) : za_n 57 (45, l, st, w) = za_x 57 (.getfield 26) 45 l st w := za_n.at zcc_57 dX6_packBlock_45 rfl
theorem f_57_48 (l : za_L) (st : List Value) (w : za_W) : za_n 57 (48, l, st, w) = za_x 57 (.aload_n 0) 48 l st w := za_n.at zcc_57 dX6_packBlock_48 rfl
theorem f_57_49 (l : za_L) (st : List Value) (w : za_W) : za_n 57 (49, l, st, w) = za_x 57 (.getfield 44) 49 l st w := za_n.at zcc_57 dX6_packBlock_49 rfl
theorem f_57_52 (l : za_L) (st : List Value) (w : za_W) : za_n 57 (52, l, st, w) = za_x 57 (.aload_n 0) 52 l st w := za_n.at zcc_57 dX6_packBlock_52 rfl
theorem f_57_53 (l : za_L) (st : List Value) (w : za_W) : za_n 57 (53, l, st, w) = za_x 57 (.getfield 152) 53 l st w := za_n.at zcc_57 dX6_packBlock_53 rfl
theorem f_57_56 (l : za_L) (st : List Value) (w : za_W) : za_n 57 (56, l, st, w) = za_x 57 (.aload_n 3) 56 l st w := za_n.at zcc_57 dX6_packBlock_56 rfl
theorem f_57_57 (l : za_L) (st : List Value) (w : za_W) : za_n 57 (57, l, st, w) = za_x 57 (.invokevirtual 155) 57 l st w := za_n.at zcc_57 dX6_packBlock_57 rfl
theorem f_57_60 (l : za_L) (st : List Value) (w : za_W) : za_n 57 (60, l, st, w) = za_x 57 (.aload_n 0) 60 l st w := za_n.at zcc_57 dX6_packBlock_60 rfl
theorem f_57_61 (l : za_L) (st : List Value) (w : za_W) : za_n 57 (61, l, st, w) = za_x 57 (.iload_n 1) 61 l st w := za_n.at zcc_57 dX6_packBlock_61 rfl
theorem f_57_62 (l : za_L) (st : List Value) (w : za_W) : za_n 57 (62, l, st, w) = za_x 57 (.iload_n 2) 62 l st w := za_n.at zcc_57 dX6_packBlock_62 rfl
theorem f_57_63 (l : za_L) (st : List Value) (w : za_W) : za_n 57 (63, l, st, w) = za_x 57 (.aload_n 3) 63 l st w := za_n.at zcc_57 dX6_packBlock_63 rfl
theorem f_57_64 (l : za_L) (st : List Value) (w : za_W) : za_n 57 (64, l, st, w) = za_x 57 (.invokevirtual 159) 64 l st w := za_n.at zcc_57 dX6_packBlock_64 rfl
theorem f_57_67 (l : za_L) (st : List Value) (w : za_W) : za_n 57 (67, l, st, w) = za_x 57 (.aload_n 0) 67 l st w := za_n.at zcc_57 dX6_packBlock_67 rfl
theorem f_57_68 (l : za_L) (st : List Value) (w : za_W) : za_n 57 (68, l, st, w) = za_x 57 (.iload_n 1) 68 l st w := za_n.at zcc_57 dX6_packBlock_68 rfl
theorem f_57_69 (l : za_L) (st : List Value) (w : za_W) : za_n 57 (69, l, st, w) = za_x 57 (.invokevirtual 163) 69 l st w := za_n.at zcc_57 dX6_packBlock_69 rfl
theorem f_57_72 (l : za_L) (st : List Value) (w : za_W) : za_n 57 (72, l, st, w) = za_x 57 (.aload_n 0) 72 l st w := za_n.at zcc_57 dX6_packBlock_72 rfl
theorem f_57_73 (l : za_L) (st : List Value) (w : za_W) : za_n 57 (73, l, st, w) = za_x 57 (.invokevirtual 166) 73 l st w := za_n.at zcc_57 dX6_packBlock_73 rfl
theorem f_57_76 (l : za_L) (st : List Value) (w : za_W) : za_n 57 (76, l, st, w) = za_x 57 (.aload_n 0) 76 l st w := za_n.at zcc_57 dX6_packBlock_76 rfl
theorem f_57_77 (l : za_L) (st : List Value) (w : za_W) : za_n 57 (77, l, st, w) = za_x 57 (.aload_n 3) 77 l st w := za_n.at zcc_57 dX6_packBlock_77 rfl
theorem f_57_78 (l : za_L) (st : List Value) (w : za_W) : za_n 57 (78, l, st, w) = za_x 57 (.invokevirtual 169) 78 l st w := za_n.at zcc_57 dX6_packBlock_78 rfl
theorem f_57_81 (l : za_L) (st : List Value) (w : za_W) : za_n 57 (81, l, st, w) = za_x 57 (.aload_n 0) 81 l st w := za_n.at zcc_57 dX6_packBlock_81 rfl
theorem f_57_82 (l : za_L) (st : List Value) (w : za_W) : za_n 57 (82, l, st, w) = za_x 57 (.aload_n 3) 82 l st w := za_n.at zcc_57 dX6_packBlock_82 rfl
theorem f_57_83 (l : za_L) (st : List Value) (w : za_W) : za_n 57 (83, l, st, w) = za_x 57 (.invokevirtual 173) 83 l st w := za_n.at zcc_57 dX6_packBlock_83 rfl
theorem f_57_86 (l : za_L) (st : List Value) (w : za_W) : za_n 57 (86, l, st, w) = za_x 57 (.aload_n 0) 86 l st w := za_n.at zcc_57 dX6_packBlock_86 rfl
theorem f_57_87 (l : za_L) (st : List Value) (w : za_W) : za_n 57 (87, l, st, w) = za_x 57 (.aload_n 3) 87 l st w := za_n.at zcc_57 dX6_packBlock_87 rfl
theorem f_57_88 (l : za_L) (st : List Value) (w : za_W) : za_n 57 (88, l, st, w) = za_x 57 (.invokevirtual 176) 88 l st w := za_n.at zcc_57 dX6_packBlock_88 rfl
theorem f_57_91 (l : za_L) (st : List Value) (w : za_W) : za_n 57 (91, l, st, w) = za_x 57 (.aload_n 0) 91 l st w := za_n.at zcc_57 dX6_packBlock_91 rfl
theorem f_57_92 (l : za_L) (st : List Value) (w : za_W) : za_n 57 (92, l, st, w) = za_x 57 (.getfield 47) 92 l st w := za_n.at zcc_57 dX6_packBlock_92 rfl
theorem f_57_95 (l : za_L) (st : List Value) (w : za_W) : za_n 57 (95, l, st, w) = za_x 57 (.invokevirtual 179) 95 l st w := za_n.at zcc_57 dX6_packBlock_95 rfl
theorem f_57_98 (l : za_L) (st : List Value) (w : za_W) : za_n 57 (98, l, st, w) = za_x 57 (.aload_n 0) 98 l st w := za_n.at zcc_57 dX6_packBlock_98 rfl
theorem f_57_99 (l : za_L) (st : List Value) (w : za_W) : za_n 57 (99, l, st, w) = za_x 57 (.getfield 47) 99 l st w := za_n.at zcc_57 dX6_packBlock_99 rfl
theorem f_57_102 (l : za_L) (st : List Value) (w : za_W) : za_n 57 (102, l, st, w) = za_x 57 (.invokevirtual 182) 102 l st w := za_n.at zcc_57 dX6_packBlock_102 rfl
theorem f_57_105 (l : za_L) (st : List Value) (w : za_W) : za_n 57 (105, l, st, w) = za_x 57 (.return_) 105 l st w := za_n.at zcc_57 dX6_packBlock_105 rfl
theorem f_58_0 (l : za_L) (st : List Value) (w : za_W) : za_n 58 (0, l, st, w) = za_x 58 (.aload_n 0) 0 l st w := za_n.at zcc_58 dX6_noteFacts_0 rfl
theorem f_58_1 (l : za_L) (st : List Value) (w : za_W) : za_n 58 (1, l, st, w) = za_x 58 (.getfield 47) 1 l st w := za_n.at zcc_58 dX6_noteFacts_1 rfl
theorem f_58_4 (l : za_L) (st : List Value) (w : za_W) : za_n 58 (4, l, st, w) = za_x 58 (.iload_n 1) 4 l st w := za_n.at zcc_58 dX6_noteFacts_4 rfl
theorem f_58_5 (l : za_L) (st : List Value) (w : za_W) : za_n 58 (5, l, st, w) = za_x 58 (.putfield 100) 5 l st w := za_n.at zcc_58 dX6_noteFacts_5 rfl
theorem f_58_8 (l : za_L) (st : List Value) (w : za_W) : za_n 58 (8, l, st, w) = za_x 58 (.aload_n 0) 8 l st w := za_n.at zcc_58 dX6_noteFacts_8 rfl
theorem f_58_9 (l : za_L) (st : List Value) (w : za_W) : za_n 58 (9, l, st, w) = za_x 58 (.getfield 47) 9 l st w := za_n.at zcc_58 dX6_noteFacts_9 rfl
theorem f_58_12 (l : za_L) (st : List Value) (w : za_W) : za_n 58 (12, l, st, w) = za_go 13 l (.int (0) :: st) w := (za_n.at zcc_58 dX6_noteFacts_12 rfl).trans (congrArg (fun x => za_go 13 l (.int x :: st) w) (by decide))
theorem f_58_13 (l : za_L) (st : List Value) (w : za_W) : za_n 58 (13, l, st, w) = za_x 58 (.aload_n 0) 13 l st w := za_n.at zcc_58 dX6_noteFacts_13 rfl
theorem f_58_14 (l : za_L) (st : List Value) (w : za_W) : za_n 58 (14, l, st, w) = za_x 58 (.getfield 60) 14 l st w := za_n.at zcc_58 dX6_noteFacts_14 rfl
theorem f_58_17 (l : za_L) (st : List Value) (w : za_W) : za_n 58 (17, l, st, w) = za_x 58 (.getfield 185) 17 l st w := za_n.at zcc_58 dX6_noteFacts_17 rfl
theorem f_58_20 (l : za_L) (st : List Value) (w : za_W) : za_n 58 (20, l, st, w) = za_x 58 (.invokevirtual 188) 20 l st w := za_n.at zcc_58 dX6_noteFacts_20 rfl
theorem f_58_23 (l : za_L) (st : List Value) (w : za_W) : za_n 58 (23, l, st, w) = za_x 58 (.aload_n 0) 23 l st w := za_n.at zcc_58 dX6_noteFacts_23 rfl
theorem f_58_24 (l : za_L) (st : List Value) (w : za_W) : za_n 58 (24, l, st, w) = za_x 58 (.getfield 47) 24 l st w := za_n.at zcc_58 dX6_noteFacts_24 rfl
theorem f_58_27 (l : za_L) (st : List Value) (w : za_W) : za_n 58 (27, l, st, w) = za_go 28 l (.int (1) :: st) w := (za_n.at zcc_58 dX6_noteFacts_27 rfl).trans (congrArg (fun x => za_go 28 l (.int x :: st) w) (by decide))
theorem f_58_28 (l : za_L) (st : List Value) (w : za_W) : za_n 58 (28, l, st, w) = za_x 58 (.iload_n 2) 28 l st w := za_n.at zcc_58 dX6_noteFacts_28 rfl
theorem f_58_29 (l : za_L) (st : List Value) (w : za_W) : za_n 58 (29, l, st, w) = za_x 58 (.invokevirtual 188) 29 l st w := za_n.at zcc_58 dX6_noteFacts_29 rfl
theorem f_58_32 (l : za_L) (st : List Value) (w : za_W) : za_n 58 (32, l, st, w) = za_x 58 (.aload_n 0) 32 l st w := za_n.at zcc_58 dX6_noteFacts_32 rfl
theorem f_58_33 (l : za_L) (st : List Value) (w : za_W) : za_n 58 (33, l, st, w) = za_x 58 (.getfield 47) 33 l st w := za_n.at zcc_58 dX6_noteFacts_33 rfl
theorem f_58_36 (l : za_L) (st : List Value) (w : za_W) : za_n 58 (36, l, st, w) = za_go 37 l (.int (2) :: st) w := (za_n.at zcc_58 dX6_noteFacts_36 rfl).trans (congrArg (fun x => za_go 37 l (.int x :: st) w) (by decide))
theorem f_58_37 (l : za_L) (st : List Value) (w : za_W) : za_n 58 (37, l, st, w) = za_x 58 (.aload_n 0) 37 l st w := za_n.at zcc_58 dX6_noteFacts_37 rfl
theorem f_58_38 (l : za_L) (st : List Value) (w : za_W) : za_n 58 (38, l, st, w) = za_x 58 (.getfield 125) 38 l st w := za_n.at zcc_58 dX6_noteFacts_38 rfl
theorem f_58_41 (l : za_L) (st : List Value) (w : za_W) : za_n 58 (41, l, st, w) = za_x 58 (.invokevirtual 188) 41 l st w := za_n.at zcc_58 dX6_noteFacts_41 rfl
theorem f_58_44 (l : za_L) (st : List Value) (w : za_W) : za_n 58 (44, l, st, w) = za_x 58 (.aload_n 0) 44 l st w := za_n.at zcc_58 dX6_noteFacts_44 rfl
theorem f_58_45 (l : za_L) (st : List Value) (w : za_W) : za_n 58 (45, l, st, w) = za_x 58 (.getfield 47) 45 l st w := za_n.at zcc_58 dX6_noteFacts_45 rfl
theorem f_58_48 (l : za_L) (st : List Value) (w : za_W) : za_n 58 (48, l, st, w) = za_go 49 l (.int (3) :: st) w := (za_n.at zcc_58 dX6_noteFacts_48 rfl).trans (congrArg (fun x => za_go 49 l (.int x :: st) w) (by decide))
theorem f_58_49 (l : za_L) (st : List Value) (w : za_W) : za_n 58 (49, l, st, w) = za_x 58 (.aload_n 0) 49 l st w := za_n.at zcc_58 dX6_noteFacts_49 rfl
theorem f_58_50 (l : za_L) (st : List Value) (w : za_W) : za_n 58 (50, l, st, w) = za_x 58 (.getfield 51) 50 l st w := za_n.at zcc_58 dX6_noteFacts_50 rfl
theorem f_58_53 (l : za_L) (st : List Value) (w : za_W) : za_n 58 (53, l, st, w) = za_x 58 (.aload_n 0) 53 l st w := za_n.at zcc_58 dX6_noteFacts_53 rfl
theorem f_58_54 (l : za_L) (st : List Value) (w : za_W) : za_n 58 (54, l, st, w) = za_x 58 (.getfield 125) 54 l st w := za_n.at zcc_58 dX6_noteFacts_54 rfl
theorem f_58_57 (l : za_L) (st : List Value) (w : za_W) : za_n 58 (57, l, st, w) = za_x 58 (.invokevirtual 191) 57 l st w := za_n.at zcc_58 dX6_noteFacts_57 rfl
theorem f_58_60 (l : za_L) (st : List Value) (w : za_W) : za_n 58 (60, l, st, w) = za_x 58 (.invokevirtual 188) 60 l st w := za_n.at zcc_58 dX6_noteFacts_60 rfl
theorem f_58_63 (l : za_L) (st : List Value) (w : za_W) : za_n 58 (63, l, st, w) = za_x 58 (.aload_n 0) 63 l st w := za_n.at zcc_58 dX6_noteFacts_63 rfl
theorem f_58_64 (l : za_L) (st : List Value) (w : za_W) : za_n 58 (64, l, st, w) = za_x 58 (.getfield 47) 64 l st w := za_n.at zcc_58 dX6_noteFacts_64 rfl
theorem f_58_67 (l : za_L) (st : List Value) (w : za_W) : za_n 58 (67, l, st, w) = za_go 68 l (.int (4) :: st) w := (za_n.at zcc_58 dX6_noteFacts_67 rfl).trans (congrArg (fun x => za_go 68 l (.int x :: st) w) (by decide))
theorem f_58_68 (l : za_L) (st : List Value) (w : za_W) : za_n 58 (68, l, st, w) = za_x 58 (.aload_n 0) 68 l st w := za_n.at zcc_58 dX6_noteFacts_68 rfl
theorem f_58_69 (l : za_L) (st : List Value) (w : za_W) : za_n 58 (69, l, st, w) = za_x 58 (.getfield 14) 69 l st w := za_n.at zcc_58 dX6_noteFacts_69 rfl
theorem f_58_72 (l : za_L) (st : List Value) (w : za_W) : za_n 58 (72, l, st, w) = za_x 58 (.getfield 146) 72 l st w := za_n.at zcc_58 dX6_noteFacts_72 rfl
theorem f_58_75 (l : za_L) (st : List Value) (w : za_W) : za_n 58 (75, l, st, w) = za_x 58 (.invokevirtual 188) 75 l st w := za_n.at zcc_58 dX6_noteFacts_75 rfl
theorem f_58_78 (l : za_L) (st : List Value) (w : za_W) : za_n 58 (78, l, st, w) = za_x 58 (.aload_n 0) 78 l st w := za_n.at zcc_58 dX6_noteFacts_78 rfl
theorem f_58_79 (l : za_L) (st : List Value) (w : za_W) : za_n 58 (79, l, st, w) = za_x 58 (.getfield 47) 79 l st w := za_n.at zcc_58 dX6_noteFacts_79 rfl
theorem f_58_82 (l : za_L) (st : List Value) (w : za_W) : za_n 58 (82, l, st, w) = za_go 83 l (.int (5) :: st) w := (za_n.at zcc_58 dX6_noteFacts_82 rfl).trans (congrArg (fun x => za_go 83 l (.int x :: st) w) (by decide))
theorem f_58_83 (l : za_L) (st : List Value) (w : za_W) : za_n 58 (83, l, st, w) = za_x 58 (.aload_n 3) 83 l st w := za_n.at zcc_58 dX6_noteFacts_83 rfl
theorem f_58_84 (l : za_L) (st : List Value) (w : za_W) : za_n 58 (84, l, st, w) = za_x 58 (.getfield 194) 84 l st w := za_n.at zcc_58 dX6_noteFacts_84 rfl
theorem f_58_87 (l : za_L) (st : List Value) (w : za_W) : za_n 58 (87, l, st, w) = za_x 58 (.invokevirtual 188) 87 l st w := za_n.at zcc_58 dX6_noteFacts_87 rfl
theorem f_58_90 (l : za_L) (st : List Value) (w : za_W) : za_n 58 (90, l, st, w) = za_x 58 (.aload_n 0) 90 l st w := za_n.at zcc_58 dX6_noteFacts_90 rfl
theorem f_58_91 (l : za_L) (st : List Value) (w : za_W) : za_n 58 (91, l, st, w) = za_x 58 (.getfield 47) 91 l st w := za_n.at zcc_58 dX6_noteFacts_91 rfl
theorem f_58_94 (l : za_L) (st : List Value) (w : za_W) : za_n 58 (94, l, st, w) = za_go 96 l (.int (6) :: st) w := (za_n.at zcc_58 dX6_noteFacts_94 rfl).trans (congrArg (fun x => za_go 96 l (.int x :: st) w) (by decide))
theorem f_58_96 (l : za_L) (st : List Value) (w : za_W) : za_n 58 (96, l, st, w) = za_x 58 (.aload_n 3) 96 l st w := za_n.at zcc_58 dX6_noteFacts_96 rfl
theorem f_58_97 (l : za_L) (st : List Value) (w : za_W) : za_n 58 (97, l, st, w) = za_x 58 (.getfield 197) 97 l st w := za_n.at zcc_58 dX6_noteFacts_97 rfl
theorem f_58_100 (l : za_L) (st : List Value) (w : za_W) : za_n 58 (100, l, st, w) = za_x 58 (.invokevirtual 188) 100 l st w := za_n.at zcc_58 dX6_noteFacts_100 rfl
theorem f_58_103 (l : za_L) (st : List Value) (w : za_W) : za_n 58 (103, l, st, w) = za_x 58 (.aload_n 0) 103 l st w := za_n.at zcc_58 dX6_noteFacts_103 rfl
theorem f_58_104 (l : za_L) (st : List Value) (w : za_W) : za_n 58 (104, l, st, w) = za_x 58 (.getfield 47) 104 l st w := za_n.at zcc_58 dX6_noteFacts_104 rfl
theorem f_58_107 (l : za_L) (st : List Value) (w : za_W) : za_n 58 (107, l, st, w) = za_go 109 l (.int (7) :: st) w := (za_n.at zcc_58 dX6_noteFacts_107 rfl).trans (congrArg (fun x => za_go 109 l (.int x :: st) w) (by decide))
theorem f_58_109 (l : za_L) (st : List Value) (w : za_W) : za_n 58 (109, l, st, w) = za_go 110 l (.int (0) :: st) w := (za_n.at zcc_58 dX6_noteFacts_109 rfl).trans (congrArg (fun x => za_go 110 l (.int x :: st) w) (by decide))
theorem f_58_110 (l : za_L) (st : List Value) (w : za_W) : za_n 58 (110, l, st, w) = za_x 58 (.invokevirtual 188) 110 l st w := za_n.at zcc_58 dX6_noteFacts_110 rfl
theorem f_58_113 (l : za_L) (st : List Value) (w : za_W) : za_n 58 (113, l, st, w) = za_x 58 (.aload_n 0) 113 l st w := za_n.at zcc_58 dX6_noteFacts_113 rfl
theorem f_58_114 (l : za_L) (st : List Value) (w : za_W) : za_n 58 (114, l, st, w) = za_x 58 (.getfield 47) 114 l st w := za_n.at zcc_58 dX6_noteFacts_114 rfl
theorem f_58_117 (l : za_L) (st : List Value) (w : za_W) : za_n 58 (117, l, st, w) = za_go 119 l (.int (8) :: st) w := (za_n.at zcc_58 dX6_noteFacts_117 rfl).trans (congrArg (fun x => za_go 119 l (.int x :: st) w) (by decide))
theorem f_58_119 (l : za_L) (st : List Value) (w : za_W) : za_n 58 (119, l, st, w) = za_x 58 (.aload_n 0) 119 l st w := za_n.at zcc_58 dX6_noteFacts_119 rfl
theorem f_58_120 (l : za_L) (st : List Value) (w : za_W) : za_n 58 (120, l, st, w) = za_x 58 (.getfield 152) 120 l st w := za_n.at zcc_58 dX6_noteFacts_120 rfl
theorem f_58_123 (l : za_L) (st : List Value) (w : za_W) : za_n 58 (123, l, st, w) = za_x 58 (.invokevirtual 188) 123 l st w := za_n.at zcc_58 dX6_noteFacts_123 rfl
theorem f_58_126 (l : za_L) (st : List Value) (w : za_W) : za_n 58 (126, l, st, w) = za_x 58 (.return_) 126 l st w := za_n.at zcc_58 dX6_noteFacts_126 rfl
theorem f_59_0 (l : za_L) (st : List Value) (w : za_W) : za_n 59 (0, l, st, w) = za_x 59 (.aload_n 0) 0 l st w := za_n.at zcc_59 dX6_findSigns_0 rfl
theorem f_59_1 (l : za_L) (st : List Value) (w : za_W) : za_n 59 (1, l, st, w) = za_x 59 (.getfield 36) 1 l st w := za_n.at zcc_59 dX6_findSigns_1 rfl
theorem f_59_4 (l : za_L) (st : List Value) (w : za_W) : za_n 59 (4, l, st, w) = za_go 5 l (.int (0) :: st) w := (za_n.at zcc_59 dX6_findSigns_4 rfl).trans (congrArg (fun x => za_go 5 l (.int x :: st) w) (by decide))
theorem f_59_5 (l : za_L) (st : List Value) (w : za_W) : za_n 59 (5, l, st, w) = za_x 59 (.invokestatic 200) 5 l st w := za_n.at zcc_59 dX6_findSigns_5 rfl
theorem f_59_8 (l : za_L) (st : List Value) (w : za_W) : za_n 59 (8, l, st, w) = za_go 9 l (.int (0) :: st) w := (za_n.at zcc_59 dX6_findSigns_8 rfl).trans (congrArg (fun x => za_go 9 l (.int x :: st) w) (by decide))
theorem f_59_9 (l : za_L) (st : List Value) (w : za_W) : za_n 59 (9, l, st, w) = za_x 59 (.istore_n 1) 9 l st w := za_n.at zcc_59 dX6_findSigns_9 rfl
theorem f_59_10 (l : za_L) (st : List Value) (w : za_W) : za_n 59 (10, l, st, w) = za_x 59 (.iload_n 1) 10 l st w := za_n.at zcc_59 dX6_findSigns_10 rfl
theorem f_59_11 (l : za_L) (st : List Value) (w : za_W) : za_n 59 (11, l, st, w) = za_x 59 (.aload_n 0) 11 l st w := za_n.at zcc_59 dX6_findSigns_11 rfl
theorem f_59_12 (l : za_L) (st : List Value) (w : za_W) : za_n 59 (12, l, st, w) = za_x 59 (.getfield 125) 12 l st w := za_n.at zcc_59 dX6_findSigns_12 rfl
theorem f_59_15 (l : za_L) (st : List Value) (w : za_W) : za_n 59 (15, l, st, w) = za_x 59 (.if_icmp .ge 25) 15 l st w := za_n.at zcc_59 dX6_findSigns_15 rfl
theorem f_59_18 (l : za_L) (st : List Value) (w : za_W) : za_n 59 (18, l, st, w) = za_x 59 (.aload_n 0) 18 l st w := za_n.at zcc_59 dX6_findSigns_18 rfl
theorem f_59_19 (l : za_L) (st : List Value) (w : za_W) : za_n 59 (19, l, st, w) = za_x 59 (.getfield 36) 19 l st w := za_n.at zcc_59 dX6_findSigns_19 rfl
theorem f_59_22 (l : za_L) (st : List Value) (w : za_W) : za_n 59 (22, l, st, w) = za_x 59 (.aload_n 0) 22 l st w := za_n.at zcc_59 dX6_findSigns_22 rfl
theorem f_59_23 (l : za_L) (st : List Value) (w : za_W) : za_n 59 (23, l, st, w) = za_x 59 (.getfield 40) 23 l st w := za_n.at zcc_59 dX6_findSigns_23 rfl
theorem f_59_26 (l : za_L) (st : List Value) (w : za_W) : za_n 59 (26, l, st, w) = za_x 59 (.iload_n 1) 26 l st w := za_n.at zcc_59 dX6_findSigns_26 rfl
theorem f_59_27 (l : za_L) (st : List Value) (w : za_W) : za_n 59 (27, l, st, w) = za_x 59 (.baload) 27 l st w := za_n.at zcc_59 dX6_findSigns_27 rfl
theorem f_59_28 (l : za_L) (st : List Value) (w : za_W) : za_n 59 (28, l, st, w) = za_go 31 l (.int (255) :: st) w := (za_n.at zcc_59 dX6_findSigns_28 rfl).trans (congrArg (fun x => za_go 31 l (.int x :: st) w) (by decide))
theorem f_59_31 (l : za_L) (st : List Value) (w : za_W) : za_n 59 (31, l, st, w) = za_x 59 (.iand) 31 l st w := za_n.at zcc_59 dX6_findSigns_31 rfl
theorem f_59_32 (l : za_L) (st : List Value) (w : za_W) : za_n 59 (32, l, st, w) = za_go 33 l (.int (1) :: st) w := (za_n.at zcc_59 dX6_findSigns_32 rfl).trans (congrArg (fun x => za_go 33 l (.int x :: st) w) (by decide))
theorem f_59_33 (l : za_L) (st : List Value) (w : za_W) : za_n 59 (33, l, st, w) = za_x 59 (.iastore) 33 l st w := za_n.at zcc_59 dX6_findSigns_33 rfl
theorem f_59_34 (l : za_L) (st : List Value) (w : za_W) : za_n 59 (34, l, st, w) = za_x 59 (.iinc 1 1) 34 l st w := za_n.at zcc_59 dX6_findSigns_34 rfl
theorem f_59_37 (l : za_L) (st : List Value) (w : za_W) : za_n 59 (37, l, st, w) = za_go 10 l st w := (za_n.at zcc_59 dX6_findSigns_37 rfl).trans (za_jp.at (by decide))
theorem f_59_40 (l : za_L) (st : List Value) (w : za_W) : za_n 59 (40, l, st, w) = za_x 59 (.aload_n 0) 40 l st w := za_n.at zcc_59 dX6_findSigns_40 rfl
theorem f_59_41 (l : za_L) (st : List Value) (w : za_W) : za_n 59 (41, l, st, w) = za_x 59 (.getfield 14) 41 l st w := za_n.at zcc_59 dX6_findSigns_41 rfl
theorem f_59_44 (l : za_L) (st : List Value) (w : za_W) : za_n 59 (44, l, st, w) = za_x 59 (.invokevirtual 206) 44 l st w := za_n.at zcc_59 dX6_findSigns_44 rfl
theorem f_59_47 (l : za_L) (st : List Value) (w : za_W) : za_n 59 (47, l, st, w) = za_go 48 l (.int (0) :: st) w := (za_n.at zcc_59 dX6_findSigns_47 rfl).trans (congrArg (fun x => za_go 48 l (.int x :: st) w) (by decide))
theorem f_59_48 (l : za_L) (st : List Value) (w : za_W) : za_n 59 (48, l, st, w) = za_x 59 (.istore_n 1) 48 l st w := za_n.at zcc_59 dX6_findSigns_48 rfl
theorem f_59_49 (l : za_L) (st : List Value) (w : za_W) : za_n 59 (49, l, st, w) = za_x 59 (.iload_n 1) 49 l st w := za_n.at zcc_59 dX6_findSigns_49 rfl
theorem f_59_50 (l : za_L) (st : List Value) (w : za_W) : za_n 59 (50, l, st, w) = za_go 53 l (.int (256) :: st) w := (za_n.at zcc_59 dX6_findSigns_50 rfl).trans (congrArg (fun x => za_go 53 l (.int x :: st) w) (by decide))
theorem f_59_53 (l : za_L) (st : List Value) (w : za_W) : za_n 59 (53, l, st, w) = za_x 59 (.if_icmp .ge 27) 53 l st w := za_n.at zcc_59 dX6_findSigns_53 rfl
theorem f_59_56 (l : za_L) (st : List Value) (w : za_W) : za_n 59 (56, l, st, w) = za_x 59 (.aload_n 0) 56 l st w := za_n.at zcc_59 dX6_findSigns_56 rfl
theorem f_59_57 (l : za_L) (st : List Value) (w : za_W) : za_n 59 (57, l, st, w) = za_x 59 (.getfield 36) 57 l st w := za_n.at zcc_59 dX6_findSigns_57 rfl
theorem f_59_60 (l : za_L) (st : List Value) (w : za_W) : za_n 59 (60, l, st, w) = za_x 59 (.iload_n 1) 60 l st w := za_n.at zcc_59 dX6_findSigns_60 rfl
theorem f_59_61 (l : za_L) (st : List Value) (w : za_W) : za_n 59 (61, l, st, w) = za_x 59 (.iaload) 61 l st w := za_n.at zcc_59 dX6_findSigns_61 rfl
theorem f_59_62 (l : za_L) (st : List Value) (w : za_W) : za_n 59 (62, l, st, w) = za_go 63 l (.int (1) :: st) w := (za_n.at zcc_59 dX6_findSigns_62 rfl).trans (congrArg (fun x => za_go 63 l (.int x :: st) w) (by decide))
theorem f_59_63 (l : za_L) (st : List Value) (w : za_W) : za_n 59 (63, l, st, w) = za_x 59 (.if_icmp .ne 11) 63 l st w := za_n.at zcc_59 dX6_findSigns_63 rfl
theorem f_59_66 (l : za_L) (st : List Value) (w : za_W) : za_n 59 (66, l, st, w) = za_x 59 (.aload_n 0) 66 l st w := za_n.at zcc_59 dX6_findSigns_66 rfl
theorem f_59_67 (l : za_L) (st : List Value) (w : za_W) : za_n 59 (67, l, st, w) = za_x 59 (.getfield 14) 67 l st w := za_n.at zcc_59 dX6_findSigns_67 rfl
theorem f_59_70 (l : za_L) (st : List Value) (w : za_W) : za_n 59 (70, l, st, w) = za_x 59 (.iload_n 1) 70 l st w := za_n.at zcc_59 dX6_findSigns_70 rfl
theorem f_59_71 (l : za_L) (st : List Value) (w : za_W) : za_n 59 (71, l, st, w) = za_x 59 (.invokevirtual 209) 71 l st w := za_n.at zcc_59 dX6_findSigns_71 rfl
theorem f_59_74 (l : za_L) (st : List Value) (w : za_W) : za_n 59 (74, l, st, w) = za_x 59 (.iinc 1 1) 74 l st w := za_n.at zcc_59 dX6_findSigns_74 rfl
theorem f_59_77 (l : za_L) (st : List Value) (w : za_W) : za_n 59 (77, l, st, w) = za_go 49 l st w := (za_n.at zcc_59 dX6_findSigns_77 rfl).trans (za_jp.at (by decide))
theorem f_59_80 (l : za_L) (st : List Value) (w : za_W) : za_n 59 (80, l, st, w) = za_x 59 (.return_) 80 l st w := za_n.at zcc_59 dX6_findSigns_80 rfl
theorem f_60_0 (l : za_L) (st : List Value) (w : za_W) : za_n 60 (0, l, st, w) = za_x 60 (.aload_n 0) 0 l st w := za_n.at zcc_60 dX6_makeNumbers_0 rfl
theorem f_60_1 (l : za_L) (st : List Value) (w : za_W) : za_n 60 (1, l, st, w) = za_go 2 l (.int (0) :: st) w := (za_n.at zcc_60 dX6_makeNumbers_1 rfl).trans (congrArg (fun x => za_go 2 l (.int x :: st) w) (by decide))
theorem f_60_2 (l : za_L) (st : List Value) (w : za_W) : za_n 60 (2, l, st, w) = za_x 60 (.putfield 152) 2 l st w := za_n.at zcc_60 dX6_makeNumbers_2 rfl
theorem f_60_5 (l : za_L) (st : List Value) (w : za_W) : za_n 60 (5, l, st, w) = za_go 6 l (.int (0) :: st) w := (za_n.at zcc_60 dX6_makeNumbers_5 rfl).trans (congrArg (fun x => za_go 6 l (.int x :: st) w) (by decide))
theorem f_60_6 (l : za_L) (st : List Value) (w : za_W) : za_n 60 (6, l, st, w) = za_x 60 (.istore_n 1) 6 l st w := za_n.at zcc_60 dX6_makeNumbers_6 rfl
theorem f_60_7 (l : za_L) (st : List Value) (w : za_W) : za_n 60 (7, l, st, w) = za_go 8 l (.int (0) :: st) w := (za_n.at zcc_60 dX6_makeNumbers_7 rfl).trans (congrArg (fun x => za_go 8 l (.int x :: st) w) (by decide))
theorem f_60_8 (l : za_L) (st : List Value) (w : za_W) : za_n 60 (8, l, st, w) = za_x 60 (.istore_n 2) 8 l st w := za_n.at zcc_60 dX6_makeNumbers_8 rfl
theorem f_60_9 (l : za_L) (st : List Value) (w : za_W) : za_n 60 (9, l, st, w) = za_x 60 (.iload_n 2) 9 l st w := za_n.at zcc_60 dX6_makeNumbers_9 rfl
theorem f_60_10 (l : za_L) (st : List Value) (w : za_W) : za_n 60 (10, l, st, w) = za_x 60 (.aload_n 0) 10 l st w := za_n.at zcc_60 dX6_makeNumbers_10 rfl
theorem f_60_11 (l : za_L) (st : List Value) (w : za_W) : za_n 60 (11, l, st, w) = za_x 60 (.getfield 125) 11 l st w := za_n.at zcc_60 dX6_makeNumbers_11 rfl
theorem f_60_14 (l : za_L) (st : List Value) (w : za_W) : za_n 60 (14, l, st, w) = za_x 60 (.if_icmp .ge 57) 14 l st w := za_n.at zcc_60 dX6_makeNumbers_14 rfl
theorem f_60_17 (l : za_L) (st : List Value) (w : za_W) : za_n 60 (17, l, st, w) = za_x 60 (.aload_n 0) 17 l st w := za_n.at zcc_60 dX6_makeNumbers_17 rfl
theorem f_60_18 (l : za_L) (st : List Value) (w : za_W) : za_n 60 (18, l, st, w) = za_x 60 (.getfield 14) 18 l st w := za_n.at zcc_60 dX6_makeNumbers_18 rfl
theorem f_60_21 (l : za_L) (st : List Value) (w : za_W) : za_n 60 (21, l, st, w) = za_x 60 (.aload_n 0) 21 l st w := za_n.at zcc_60 dX6_makeNumbers_21 rfl
theorem f_60_22 (l : za_L) (st : List Value) (w : za_W) : za_n 60 (22, l, st, w) = za_x 60 (.getfield 51) 22 l st w := za_n.at zcc_60 dX6_makeNumbers_22 rfl
theorem f_60_25 (l : za_L) (st : List Value) (w : za_W) : za_n 60 (25, l, st, w) = za_x 60 (.aload_n 0) 25 l st w := za_n.at zcc_60 dX6_makeNumbers_25 rfl
theorem f_60_26 (l : za_L) (st : List Value) (w : za_W) : za_n 60 (26, l, st, w) = za_x 60 (.getfield 40) 26 l st w := za_n.at zcc_60 dX6_makeNumbers_26 rfl
theorem f_60_29 (l : za_L) (st : List Value) (w : za_W) : za_n 60 (29, l, st, w) = za_x 60 (.aload_n 0) 29 l st w := za_n.at zcc_60 dX6_makeNumbers_29 rfl
theorem f_60_30 (l : za_L) (st : List Value) (w : za_W) : za_n 60 (30, l, st, w) = za_x 60 (.getfield 125) 30 l st w := za_n.at zcc_60 dX6_makeNumbers_30 rfl
theorem f_60_33 (l : za_L) (st : List Value) (w : za_W) : za_n 60 (33, l, st, w) = za_x 60 (.iload_n 2) 33 l st w := za_n.at zcc_60 dX6_makeNumbers_33 rfl
theorem f_60_34 (l : za_L) (st : List Value) (w : za_W) : za_n 60 (34, l, st, w) = za_x 60 (.invokevirtual 212) 34 l st w := za_n.at zcc_60 dX6_makeNumbers_34 rfl
theorem f_60_37 (l : za_L) (st : List Value) (w : za_W) : za_n 60 (37, l, st, w) = za_x 60 (.invokevirtual 216) 37 l st w := za_n.at zcc_60 dX6_makeNumbers_37 rfl
theorem f_60_40 (l : za_L) (st : List Value) (w : za_W) : za_n 60 (40, l, st, w) = za_x 60 (.istore_n 3) 40 l st w := za_n.at zcc_60 dX6_makeNumbers_40 rfl
theorem f_60_41 (l : za_L) (st : List Value) (w : za_W) : za_n 60 (41, l, st, w) = za_x 60 (.iload_n 3) 41 l st w := za_n.at zcc_60 dX6_makeNumbers_41 rfl
theorem f_60_42 (l : za_L) (st : List Value) (w : za_W) : za_n 60 (42, l, st, w) = za_x 60 (.ifCond .ne 9) 42 l st w := za_n.at zcc_60 dX6_makeNumbers_42 rfl
theorem f_60_45 (l : za_L) (st : List Value) (w : za_W) : za_n 60 (45, l, st, w) = za_x 60 (.iinc 1 1) 45 l st w := za_n.at zcc_60 dX6_makeNumbers_45 rfl
theorem f_60_48 (l : za_L) (st : List Value) (w : za_W) : za_n 60 (48, l, st, w) = za_go 65 l st w := (za_n.at zcc_60 dX6_makeNumbers_48 rfl).trans (za_jp.at (by decide))
theorem f_60_51 (l : za_L) (st : List Value) (w : za_W) : za_n 60 (51, l, st, w) = za_x 60 (.aload_n 0) 51 l st w := za_n.at zcc_60 dX6_makeNumbers_51 rfl
theorem f_60_52 (l : za_L) (st : List Value) (w : za_W) : za_n 60 (52, l, st, w) = za_x 60 (.iload_n 1) 52 l st w := za_n.at zcc_60 dX6_makeNumbers_52 rfl
theorem f_60_53 (l : za_L) (st : List Value) (w : za_W) : za_n 60 (53, l, st, w) = za_x 60 (.invokevirtual 219) 53 l st w := za_n.at zcc_60 dX6_makeNumbers_53 rfl
theorem f_60_56 (l : za_L) (st : List Value) (w : za_W) : za_n 60 (56, l, st, w) = za_go 57 l (.int (0) :: st) w := (za_n.at zcc_60 dX6_makeNumbers_56 rfl).trans (congrArg (fun x => za_go 57 l (.int x :: st) w) (by decide))
theorem f_60_57 (l : za_L) (st : List Value) (w : za_W) : za_n 60 (57, l, st, w) = za_x 60 (.istore_n 1) 57 l st w := za_n.at zcc_60 dX6_makeNumbers_57 rfl
theorem f_60_58 (l : za_L) (st : List Value) (w : za_W) : za_n 60 (58, l, st, w) = za_x 60 (.aload_n 0) 58 l st w := za_n.at zcc_60 dX6_makeNumbers_58 rfl
theorem f_60_59 (l : za_L) (st : List Value) (w : za_W) : za_n 60 (59, l, st, w) = za_x 60 (.iload_n 3) 59 l st w := za_n.at zcc_60 dX6_makeNumbers_59 rfl
theorem f_60_60 (l : za_L) (st : List Value) (w : za_W) : za_n 60 (60, l, st, w) = za_go 61 l (.int (1) :: st) w := (za_n.at zcc_60 dX6_makeNumbers_60 rfl).trans (congrArg (fun x => za_go 61 l (.int x :: st) w) (by decide))
theorem f_60_61 (l : za_L) (st : List Value) (w : za_W) : za_n 60 (61, l, st, w) = za_x 60 (.iadd) 61 l st w := za_n.at zcc_60 dX6_makeNumbers_61 rfl
theorem f_60_62 (l : za_L) (st : List Value) (w : za_W) : za_n 60 (62, l, st, w) = za_x 60 (.invokevirtual 222) 62 l st w := za_n.at zcc_60 dX6_makeNumbers_62 rfl
theorem f_60_65 (l : za_L) (st : List Value) (w : za_W) : za_n 60 (65, l, st, w) = za_x 60 (.iinc 2 1) 65 l st w := za_n.at zcc_60 dX6_makeNumbers_65 rfl
theorem f_60_68 (l : za_L) (st : List Value) (w : za_W) : za_n 60 (68, l, st, w) = za_go 9 l st w := (za_n.at zcc_60 dX6_makeNumbers_68 rfl).trans (za_jp.at (by decide))
theorem f_60_71 (l : za_L) (st : List Value) (w : za_W) : za_n 60 (71, l, st, w) = za_x 60 (.aload_n 0) 71 l st w := za_n.at zcc_60 dX6_makeNumbers_71 rfl
theorem f_60_72 (l : za_L) (st : List Value) (w : za_W) : za_n 60 (72, l, st, w) = za_x 60 (.iload_n 1) 72 l st w := za_n.at zcc_60 dX6_makeNumbers_72 rfl
theorem f_60_73 (l : za_L) (st : List Value) (w : za_W) : za_n 60 (73, l, st, w) = za_x 60 (.invokevirtual 219) 73 l st w := za_n.at zcc_60 dX6_makeNumbers_73 rfl
theorem f_60_76 (l : za_L) (st : List Value) (w : za_W) : za_n 60 (76, l, st, w) = za_x 60 (.aload_n 0) 76 l st w := za_n.at zcc_60 dX6_makeNumbers_76 rfl
theorem f_60_77 (l : za_L) (st : List Value) (w : za_W) : za_n 60 (77, l, st, w) = za_x 60 (.aload_n 0) 77 l st w := za_n.at zcc_60 dX6_makeNumbers_77 rfl
theorem f_60_78 (l : za_L) (st : List Value) (w : za_W) : za_n 60 (78, l, st, w) = za_x 60 (.getfield 14) 78 l st w := za_n.at zcc_60 dX6_makeNumbers_78 rfl
theorem f_60_81 (l : za_L) (st : List Value) (w : za_W) : za_n 60 (81, l, st, w) = za_x 60 (.getfield 146) 81 l st w := za_n.at zcc_60 dX6_makeNumbers_81 rfl
theorem f_60_84 (l : za_L) (st : List Value) (w : za_W) : za_n 60 (84, l, st, w) = za_go 85 l (.int (1) :: st) w := (za_n.at zcc_60 dX6_makeNumbers_84 rfl).trans (congrArg (fun x => za_go 85 l (.int x :: st) w) (by decide))
theorem f_60_85 (l : za_L) (st : List Value) (w : za_W) : za_n 60 (85, l, st, w) = za_x 60 (.iadd) 85 l st w := za_n.at zcc_60 dX6_makeNumbers_85 rfl
theorem f_60_86 (l : za_L) (st : List Value) (w : za_W) : za_n 60 (86, l, st, w) = za_x 60 (.invokevirtual 222) 86 l st w := za_n.at zcc_60 dX6_makeNumbers_86 rfl
theorem f_60_89 (l : za_L) (st : List Value) (w : za_W) : za_n 60 (89, l, st, w) = za_x 60 (.return_) 89 l st w := za_n.at zcc_60 dX6_makeNumbers_89 rfl
theorem f_61_0 (l : za_L) (st : List Value) (w : za_W) : za_n 61 (0, l, st, w) = za_x 61 (.iload_n 1) 0 l st w := za_n.at zcc_61 dX6_addDigits_0 rfl
theorem f_61_1 (l : za_L) (st : List Value) (w : za_W) : za_n 61 (1, l, st, w) = za_x 61 (.istore_n 2) 1 l st w := za_n.at zcc_61 dX6_addDigits_1 rfl
theorem f_61_2 (l : za_L) (st : List Value) (w : za_W) : za_n 61 (2, l, st, w) = za_x 61 (.iload_n 2) 2 l st w := za_n.at zcc_61 dX6_addDigits_2 rfl
theorem f_61_3 (l : za_L) (st : List Value) (w : za_W) : za_n 61 (3, l, st, w) = za_x 61 (.ifCond .le 21) 3 l st w := za_n.at zcc_61 dX6_addDigits_3 rfl
theorem f_61_6 (l : za_L) (st : List Value) (w : za_W) : za_n 61 (6, l, st, w) = za_x 61 (.aload_n 0) 6 l st w := za_n.at zcc_61 dX6_addDigits_6 rfl
theorem f_61_7 (l : za_L) (st : List Value) (w : za_W) : za_n 61 (7, l, st, w) = za_x 61 (.iload_n 2) 7 l st w := za_n.at zcc_61 dX6_addDigits_7 rfl
theorem f_61_8 (l : za_L) (st : List Value) (w : za_W) : za_n 61 (8, l, st, w) = za_go 9 l (.int (1) :: st) w := (za_n.at zcc_61 dX6_addDigits_8 rfl).trans (congrArg (fun x => za_go 9 l (.int x :: st) w) (by decide))
theorem f_61_9 (l : za_L) (st : List Value) (w : za_W) : za_n 61 (9, l, st, w) = za_x 61 (.isub) 9 l st w := za_n.at zcc_61 dX6_addDigits_9 rfl
theorem f_61_10 (l : za_L) (st : List Value) (w : za_W) : za_n 61 (10, l, st, w) = za_go 11 l (.int (2) :: st) w := (za_n.at zcc_61 dX6_addDigits_10 rfl).trans (congrArg (fun x => za_go 11 l (.int x :: st) w) (by decide))
theorem f_61_11 (l : za_L) (st : List Value) (w : za_W) : za_n 61 (11, l, st, w) = za_x 61 (.irem) 11 l st w := za_n.at zcc_61 dX6_addDigits_11 rfl
theorem f_61_12 (l : za_L) (st : List Value) (w : za_W) : za_n 61 (12, l, st, w) = za_x 61 (.invokevirtual 222) 12 l st w := za_n.at zcc_61 dX6_addDigits_12 rfl
theorem f_61_15 (l : za_L) (st : List Value) (w : za_W) : za_n 61 (15, l, st, w) = za_x 61 (.iload_n 2) 15 l st w := za_n.at zcc_61 dX6_addDigits_15 rfl
theorem f_61_16 (l : za_L) (st : List Value) (w : za_W) : za_n 61 (16, l, st, w) = za_go 17 l (.int (1) :: st) w := (za_n.at zcc_61 dX6_addDigits_16 rfl).trans (congrArg (fun x => za_go 17 l (.int x :: st) w) (by decide))
theorem f_61_17 (l : za_L) (st : List Value) (w : za_W) : za_n 61 (17, l, st, w) = za_x 61 (.isub) 17 l st w := za_n.at zcc_61 dX6_addDigits_17 rfl
theorem f_61_18 (l : za_L) (st : List Value) (w : za_W) : za_n 61 (18, l, st, w) = za_go 19 l (.int (2) :: st) w := (za_n.at zcc_61 dX6_addDigits_18 rfl).trans (congrArg (fun x => za_go 19 l (.int x :: st) w) (by decide))
theorem f_61_19 (l : za_L) (st : List Value) (w : za_W) : za_n 61 (19, l, st, w) = za_x 61 (.idiv) 19 l st w := za_n.at zcc_61 dX6_addDigits_19 rfl
theorem f_61_20 (l : za_L) (st : List Value) (w : za_W) : za_n 61 (20, l, st, w) = za_x 61 (.istore_n 2) 20 l st w := za_n.at zcc_61 dX6_addDigits_20 rfl
theorem f_61_21 (l : za_L) (st : List Value) (w : za_W) : za_n 61 (21, l, st, w) = za_go 2 l st w := (za_n.at zcc_61 dX6_addDigits_21 rfl).trans (za_jp.at (by decide))
theorem f_61_24 (l : za_L) (st : List Value) (w : za_W) : za_n 61 (24, l, st, w) = za_x 61 (.return_) 24 l st w := za_n.at zcc_61 dX6_addDigits_24 rfl
theorem f_62_0 (l : za_L) (st : List Value) (w : za_W) : za_n 62 (0, l, st, w) = za_x 62 (.aload_n 0) 0 l st w := za_n.at zcc_62 dX6_addNumber_0 rfl
theorem f_62_1 (l : za_L) (st : List Value) (w : za_W) : za_n 62 (1, l, st, w) = za_x 62 (.getfield 152) 1 l st w := za_n.at zcc_62 dX6_addNumber_1 rfl
theorem f_62_4 (l : za_L) (st : List Value) (w : za_W) : za_n 62 (4, l, st, w) = za_x 62 (.aload_n 0) 4 l st w := za_n.at zcc_62 dX6_addNumber_4 rfl
theorem f_62_5 (l : za_L) (st : List Value) (w : za_W) : za_n 62 (5, l, st, w) = za_x 62 (.getfield 44) 5 l st w := za_n.at zcc_62 dX6_addNumber_5 rfl
theorem f_62_8 (l : za_L) (st : List Value) (w : za_W) : za_n 62 (8, l, st, w) = za_x 62 (.arraylength) 8 l st w := za_n.at zcc_62 dX6_addNumber_8 rfl
theorem f_62_9 (l : za_L) (st : List Value) (w : za_W) : za_n 62 (9, l, st, w) = za_x 62 (.if_icmp .ge 23) 9 l st w := za_n.at zcc_62 dX6_addNumber_9 rfl
theorem f_62_12 (l : za_L) (st : List Value) (w : za_W) : za_n 62 (12, l, st, w) = za_x 62 (.aload_n 0) 12 l st w := za_n.at zcc_62 dX6_addNumber_12 rfl
theorem f_62_13 (l : za_L) (st : List Value) (w : za_W) : za_n 62 (13, l, st, w) = za_x 62 (.getfield 44) 13 l st w := za_n.at zcc_62 dX6_addNumber_13 rfl
theorem f_62_16 (l : za_L) (st : List Value) (w : za_W) : za_n 62 (16, l, st, w) = za_x 62 (.aload_n 0) 16 l st w := za_n.at zcc_62 dX6_addNumber_16 rfl
theorem f_62_17 (l : za_L) (st : List Value) (w : za_W) : za_n 62 (17, l, st, w) = za_x 62 (.getfield 152) 17 l st w := za_n.at zcc_62 dX6_addNumber_17 rfl
theorem f_62_20 (l : za_L) (st : List Value) (w : za_W) : za_n 62 (20, l, st, w) = za_x 62 (.iload_n 1) 20 l st w := za_n.at zcc_62 dX6_addNumber_20 rfl
theorem f_62_21 (l : za_L) (st : List Value) (w : za_W) : za_n 62 (21, l, st, w) = za_x 62 (.iastore) 21 l st w := za_n.at zcc_62 dX6_addNumber_21 rfl
theorem f_62_22 (l : za_L) (st : List Value) (w : za_W) : za_n 62 (22, l, st, w) = za_x 62 (.aload_n 0) 22 l st w := za_n.at zcc_62 dX6_addNumber_22 rfl
theorem f_62_23 (l : za_L) (st : List Value) (w : za_W) : za_n 62 (23, l, st, w) = za_x 62 (.dup) 23 l st w := za_n.at zcc_62 dX6_addNumber_23 rfl
theorem f_62_24 (l : za_L) (st : List Value) (w : za_W) : za_n 62 (24, l, st, w) = za_x 62 (.getfield 152) 24 l st w := za_n.at zcc_62 dX6_addNumber_24 rfl
theorem f_62_27 (l : za_L) (st : List Value) (w : za_W) : za_n 62 (27, l, st, w) = za_go 28 l (.int (1) :: st) w := (za_n.at zcc_62 dX6_addNumber_27 rfl).trans (congrArg (fun x => za_go 28 l (.int x :: st) w) (by decide))
theorem f_62_28 (l : za_L) (st : List Value) (w : za_W) : za_n 62 (28, l, st, w) = za_x 62 (.iadd) 28 l st w := za_n.at zcc_62 dX6_addNumber_28 rfl
theorem f_62_29 (l : za_L) (st : List Value) (w : za_W) : za_n 62 (29, l, st, w) = za_x 62 (.putfield 152) 29 l st w := za_n.at zcc_62 dX6_addNumber_29 rfl
theorem f_62_32 (l : za_L) (st : List Value) (w : za_W) : za_n 62 (32, l, st, w) = za_x 62 (.return_) 32 l st w := za_n.at zcc_62 dX6_addNumber_32 rfl
theorem f_63_0 (l : za_L) (st : List Value) (w : za_W) : za_n 63 (0, l, st, w) = za_x 63 (.aload_n 0) 0 l st w := za_n.at zcc_63 dX6_writeHead_0 rfl
theorem f_63_1 (l : za_L) (st : List Value) (w : za_W) : za_n 63 (1, l, st, w) = za_x 63 (.getfield 60) 1 l st w := za_n.at zcc_63 dX6_writeHead_1 rfl
theorem f_63_4 (l : za_L) (st : List Value) (w : za_W) : za_n 63 (4, l, st, w) = za_go 6 l (.int (48) :: st) w := (za_n.at zcc_63 dX6_writeHead_4 rfl).trans (congrArg (fun x => za_go 6 l (.int x :: st) w) (by decide))
theorem f_63_6 (l : za_L) (st : List Value) (w : za_W) : za_n 63 (6, l, st, w) = za_x 63 (.ldc2_w 225) 6 l st w := za_n.at zcc_63 dX6_writeHead_6 rfl
theorem f_63_9 (l : za_L) (st : List Value) (w : za_W) : za_n 63 (9, l, st, w) = za_x 63 (.invokevirtual 75) 9 l st w := za_n.at zcc_63 dX6_writeHead_9 rfl
theorem f_63_12 (l : za_L) (st : List Value) (w : za_W) : za_n 63 (12, l, st, w) = za_x 63 (.aload_n 0) 12 l st w := za_n.at zcc_63 dX6_writeHead_12 rfl
theorem f_63_13 (l : za_L) (st : List Value) (w : za_W) : za_n 63 (13, l, st, w) = za_x 63 (.getfield 60) 13 l st w := za_n.at zcc_63 dX6_writeHead_13 rfl
theorem f_63_16 (l : za_L) (st : List Value) (w : za_W) : za_n 63 (16, l, st, w) = za_go 18 l (.int (32) :: st) w := (za_n.at zcc_63 dX6_writeHead_16 rfl).trans (congrArg (fun x => za_go 18 l (.int x :: st) w) (by decide))
theorem f_63_18 (l : za_L) (st : List Value) (w : za_W) : za_n 63 (18, l, st, w) = za_x 63 (.iload_n 1) 18 l st w := za_n.at zcc_63 dX6_writeHead_18 rfl
theorem f_63_19 (l : za_L) (st : List Value) (w : za_W) : za_n 63 (19, l, st, w) = za_x 63 (.i2l) 19 l st w := za_n.at zcc_63 dX6_writeHead_19 rfl
theorem f_63_20 (l : za_L) (st : List Value) (w : za_W) : za_n 63 (20, l, st, w) = za_x 63 (.ldc2_w 109) 20 l st w := za_n.at zcc_63 dX6_writeHead_20 rfl
theorem f_63_23 (l : za_L) (st : List Value) (w : za_W) : za_n 63 (23, l, st, w) = za_x 63 (.land) 23 l st w := za_n.at zcc_63 dX6_writeHead_23 rfl
theorem f_63_24 (l : za_L) (st : List Value) (w : za_W) : za_n 63 (24, l, st, w) = za_x 63 (.invokevirtual 75) 24 l st w := za_n.at zcc_63 dX6_writeHead_24 rfl
theorem f_63_27 (l : za_L) (st : List Value) (w : za_W) : za_n 63 (27, l, st, w) = za_x 63 (.aload_n 0) 27 l st w := za_n.at zcc_63 dX6_writeHead_27 rfl
theorem f_63_28 (l : za_L) (st : List Value) (w : za_W) : za_n 63 (28, l, st, w) = za_x 63 (.getfield 60) 28 l st w := za_n.at zcc_63 dX6_writeHead_28 rfl
theorem f_63_31 (l : za_L) (st : List Value) (w : za_W) : za_n 63 (31, l, st, w) = za_go 32 l (.int (0) :: st) w := (za_n.at zcc_63 dX6_writeHead_31 rfl).trans (congrArg (fun x => za_go 32 l (.int x :: st) w) (by decide))
theorem f_63_32 (l : za_L) (st : List Value) (w : za_W) : za_n 63 (32, l, st, w) = za_x 63 (.invokevirtual 227) 32 l st w := za_n.at zcc_63 dX6_writeHead_32 rfl
theorem f_63_35 (l : za_L) (st : List Value) (w : za_W) : za_n 63 (35, l, st, w) = za_x 63 (.aload_n 0) 35 l st w := za_n.at zcc_63 dX6_writeHead_35 rfl
theorem f_63_36 (l : za_L) (st : List Value) (w : za_W) : za_n 63 (36, l, st, w) = za_x 63 (.getfield 60) 36 l st w := za_n.at zcc_63 dX6_writeHead_36 rfl
theorem f_63_39 (l : za_L) (st : List Value) (w : za_W) : za_n 63 (39, l, st, w) = za_go 41 l (.int (24) :: st) w := (za_n.at zcc_63 dX6_writeHead_39 rfl).trans (congrArg (fun x => za_go 41 l (.int x :: st) w) (by decide))
theorem f_63_41 (l : za_L) (st : List Value) (w : za_W) : za_n 63 (41, l, st, w) = za_x 63 (.aload_n 0) 41 l st w := za_n.at zcc_63 dX6_writeHead_41 rfl
theorem f_63_42 (l : za_L) (st : List Value) (w : za_W) : za_n 63 (42, l, st, w) = za_x 63 (.getfield 51) 42 l st w := za_n.at zcc_63 dX6_writeHead_42 rfl
theorem f_63_45 (l : za_L) (st : List Value) (w : za_W) : za_n 63 (45, l, st, w) = za_x 63 (.aload_n 0) 45 l st w := za_n.at zcc_63 dX6_writeHead_45 rfl
theorem f_63_46 (l : za_L) (st : List Value) (w : za_W) : za_n 63 (46, l, st, w) = za_x 63 (.getfield 125) 46 l st w := za_n.at zcc_63 dX6_writeHead_46 rfl
theorem f_63_49 (l : za_L) (st : List Value) (w : za_W) : za_n 63 (49, l, st, w) = za_x 63 (.invokevirtual 191) 49 l st w := za_n.at zcc_63 dX6_writeHead_49 rfl
theorem f_63_52 (l : za_L) (st : List Value) (w : za_W) : za_n 63 (52, l, st, w) = za_x 63 (.i2l) 52 l st w := za_n.at zcc_63 dX6_writeHead_52 rfl
theorem f_63_53 (l : za_L) (st : List Value) (w : za_W) : za_n 63 (53, l, st, w) = za_x 63 (.invokevirtual 75) 53 l st w := za_n.at zcc_63 dX6_writeHead_53 rfl
theorem f_63_56 (l : za_L) (st : List Value) (w : za_W) : za_n 63 (56, l, st, w) = za_x 63 (.return_) 56 l st w := za_n.at zcc_63 dX6_writeHead_56 rfl
theorem f_64_0 (l : za_L) (st : List Value) (w : za_W) : za_n 64 (0, l, st, w) = za_go 1 l (.int (0) :: st) w := (za_n.at zcc_64 dX6_writeMap_0 rfl).trans (congrArg (fun x => za_go 1 l (.int x :: st) w) (by decide))
theorem f_64_1 (l : za_L) (st : List Value) (w : za_W) : za_n 64 (1, l, st, w) = za_x 64 (.istore_n 1) 1 l st w := za_n.at zcc_64 dX6_writeMap_1 rfl
theorem f_64_2 (l : za_L) (st : List Value) (w : za_W) : za_n 64 (2, l, st, w) = za_x 64 (.iload_n 1) 2 l st w := za_n.at zcc_64 dX6_writeMap_2 rfl
theorem f_64_3 (l : za_L) (st : List Value) (w : za_W) : za_n 64 (3, l, st, w) = za_go 6 l (.int (256) :: st) w := (za_n.at zcc_64 dX6_writeMap_3 rfl).trans (congrArg (fun x => za_go 6 l (.int x :: st) w) (by decide))
theorem f_64_6 (l : za_L) (st : List Value) (w : za_W) : za_n 64 (6, l, st, w) = za_x 64 (.if_icmp .ge 29) 6 l st w := za_n.at zcc_64 dX6_writeMap_6 rfl
theorem f_64_9 (l : za_L) (st : List Value) (w : za_W) : za_n 64 (9, l, st, w) = za_x 64 (.aload_n 0) 9 l st w := za_n.at zcc_64 dX6_writeMap_9 rfl
theorem f_64_10 (l : za_L) (st : List Value) (w : za_W) : za_n 64 (10, l, st, w) = za_x 64 (.getfield 60) 10 l st w := za_n.at zcc_64 dX6_writeMap_10 rfl
theorem f_64_13 (l : za_L) (st : List Value) (w : za_W) : za_n 64 (13, l, st, w) = za_x 64 (.aload_n 0) 13 l st w := za_n.at zcc_64 dX6_writeMap_13 rfl
theorem f_64_14 (l : za_L) (st : List Value) (w : za_W) : za_n 64 (14, l, st, w) = za_x 64 (.iload_n 1) 14 l st w := za_n.at zcc_64 dX6_writeMap_14 rfl
theorem f_64_15 (l : za_L) (st : List Value) (w : za_W) : za_n 64 (15, l, st, w) = za_x 64 (.invokevirtual 230) 15 l st w := za_n.at zcc_64 dX6_writeMap_15 rfl
theorem f_64_18 (l : za_L) (st : List Value) (w : za_W) : za_n 64 (18, l, st, w) = za_x 64 (.ifCond .ne 7) 18 l st w := za_n.at zcc_64 dX6_writeMap_18 rfl
theorem f_64_21 (l : za_L) (st : List Value) (w : za_W) : za_n 64 (21, l, st, w) = za_go 22 l (.int (0) :: st) w := (za_n.at zcc_64 dX6_writeMap_21 rfl).trans (congrArg (fun x => za_go 22 l (.int x :: st) w) (by decide))
theorem f_64_22 (l : za_L) (st : List Value) (w : za_W) : za_n 64 (22, l, st, w) = za_go 26 l st w := (za_n.at zcc_64 dX6_writeMap_22 rfl).trans (za_jp.at (by decide))
theorem f_64_25 (l : za_L) (st : List Value) (w : za_W) : za_n 64 (25, l, st, w) = za_go 26 l (.int (1) :: st) w := (za_n.at zcc_64 dX6_writeMap_25 rfl).trans (congrArg (fun x => za_go 26 l (.int x :: st) w) (by decide))
theorem f_64_26 (l : za_L) (st : List Value) (w : za_W) : za_n 64 (26, l, st, w) = za_x 64 (.invokevirtual 227) 26 l st w := za_n.at zcc_64 dX6_writeMap_26 rfl
theorem f_64_29 (l : za_L) (st : List Value) (w : za_W) : za_n 64 (29, l, st, w) = za_x 64 (.iinc 1 16) 29 l st w := za_n.at zcc_64 dX6_writeMap_29 rfl
theorem f_64_32 (l : za_L) (st : List Value) (w : za_W) : za_n 64 (32, l, st, w) = za_go 2 l st w := (za_n.at zcc_64 dX6_writeMap_32 rfl).trans (za_jp.at (by decide))
theorem f_64_35 (l : za_L) (st : List Value) (w : za_W) : za_n 64 (35, l, st, w) = za_go 36 l (.int (0) :: st) w := (za_n.at zcc_64 dX6_writeMap_35 rfl).trans (congrArg (fun x => za_go 36 l (.int x :: st) w) (by decide))
theorem f_64_36 (l : za_L) (st : List Value) (w : za_W) : za_n 64 (36, l, st, w) = za_x 64 (.istore_n 1) 36 l st w := za_n.at zcc_64 dX6_writeMap_36 rfl
theorem f_64_37 (l : za_L) (st : List Value) (w : za_W) : za_n 64 (37, l, st, w) = za_x 64 (.iload_n 1) 37 l st w := za_n.at zcc_64 dX6_writeMap_37 rfl
theorem f_64_38 (l : za_L) (st : List Value) (w : za_W) : za_n 64 (38, l, st, w) = za_go 41 l (.int (256) :: st) w := (za_n.at zcc_64 dX6_writeMap_38 rfl).trans (congrArg (fun x => za_go 41 l (.int x :: st) w) (by decide))
theorem f_64_41 (l : za_L) (st : List Value) (w : za_W) : za_n 64 (41, l, st, w) = za_x 64 (.if_icmp .ge 30) 41 l st w := za_n.at zcc_64 dX6_writeMap_41 rfl
theorem f_64_44 (l : za_L) (st : List Value) (w : za_W) : za_n 64 (44, l, st, w) = za_x 64 (.aload_n 0) 44 l st w := za_n.at zcc_64 dX6_writeMap_44 rfl
theorem f_64_45 (l : za_L) (st : List Value) (w : za_W) : za_n 64 (45, l, st, w) = za_x 64 (.iload_n 1) 45 l st w := za_n.at zcc_64 dX6_writeMap_45 rfl
theorem f_64_46 (l : za_L) (st : List Value) (w : za_W) : za_n 64 (46, l, st, w) = za_x 64 (.invokevirtual 230) 46 l st w := za_n.at zcc_64 dX6_writeMap_46 rfl
theorem f_64_49 (l : za_L) (st : List Value) (w : za_W) : za_n 64 (49, l, st, w) = za_x 64 (.istore_n 2) 49 l st w := za_n.at zcc_64 dX6_writeMap_49 rfl
theorem f_64_50 (l : za_L) (st : List Value) (w : za_W) : za_n 64 (50, l, st, w) = za_x 64 (.iload_n 2) 50 l st w := za_n.at zcc_64 dX6_writeMap_50 rfl
theorem f_64_51 (l : za_L) (st : List Value) (w : za_W) : za_n 64 (51, l, st, w) = za_x 64 (.ifCond .eq 14) 51 l st w := za_n.at zcc_64 dX6_writeMap_51 rfl
theorem f_64_54 (l : za_L) (st : List Value) (w : za_W) : za_n 64 (54, l, st, w) = za_x 64 (.aload_n 0) 54 l st w := za_n.at zcc_64 dX6_writeMap_54 rfl
theorem f_64_55 (l : za_L) (st : List Value) (w : za_W) : za_n 64 (55, l, st, w) = za_x 64 (.getfield 60) 55 l st w := za_n.at zcc_64 dX6_writeMap_55 rfl
theorem f_64_58 (l : za_L) (st : List Value) (w : za_W) : za_n 64 (58, l, st, w) = za_go 60 l (.int (16) :: st) w := (za_n.at zcc_64 dX6_writeMap_58 rfl).trans (congrArg (fun x => za_go 60 l (.int x :: st) w) (by decide))
theorem f_64_60 (l : za_L) (st : List Value) (w : za_W) : za_n 64 (60, l, st, w) = za_x 64 (.iload_n 2) 60 l st w := za_n.at zcc_64 dX6_writeMap_60 rfl
theorem f_64_61 (l : za_L) (st : List Value) (w : za_W) : za_n 64 (61, l, st, w) = za_x 64 (.i2l) 61 l st w := za_n.at zcc_64 dX6_writeMap_61 rfl
theorem f_64_62 (l : za_L) (st : List Value) (w : za_W) : za_n 64 (62, l, st, w) = za_x 64 (.invokevirtual 75) 62 l st w := za_n.at zcc_64 dX6_writeMap_62 rfl
theorem f_64_65 (l : za_L) (st : List Value) (w : za_W) : za_n 64 (65, l, st, w) = za_x 64 (.iinc 1 16) 65 l st w := za_n.at zcc_64 dX6_writeMap_65 rfl
theorem f_64_68 (l : za_L) (st : List Value) (w : za_W) : za_n 64 (68, l, st, w) = za_go 37 l st w := (za_n.at zcc_64 dX6_writeMap_68 rfl).trans (za_jp.at (by decide))
theorem f_64_71 (l : za_L) (st : List Value) (w : za_W) : za_n 64 (71, l, st, w) = za_x 64 (.return_) 71 l st w := za_n.at zcc_64 dX6_writeMap_71 rfl
theorem f_65_0 (l : za_L) (st : List Value) (w : za_W) : za_n 65 (0, l, st, w) = za_go 1 l (.int (0) :: st) w := (za_n.at zcc_65 dX6_sixteenFrom_0 rfl).trans (congrArg (fun x => za_go 1 l (.int x :: st) w) (by decide))
theorem f_65_1 (l : za_L) (st : List Value) (w : za_W) : za_n 65 (1, l, st, w) = za_x 65 (.istore_n 2) 1 l st w := za_n.at zcc_65 dX6_sixteenFrom_1 rfl
theorem f_65_2 (l : za_L) (st : List Value) (w : za_W) : za_n 65 (2, l, st, w) = za_x 65 (.iload_n 1) 2 l st w := za_n.at zcc_65 dX6_sixteenFrom_2 rfl
theorem f_65_3 (l : za_L) (st : List Value) (w : za_W) : za_n 65 (3, l, st, w) = za_x 65 (.istore_n 3) 3 l st w := za_n.at zcc_65 dX6_sixteenFrom_3 rfl
theorem f_65_4 (l : za_L) (st : List Value) (w : za_W) : za_n 65 (4, l, st, w) = za_x 65 (.iload_n 3) 4 l st w := za_n.at zcc_65 dX6_sixteenFrom_4 rfl
theorem f_65_5 (l : za_L) (st : List Value) (w : za_W) : za_n 65 (5, l, st, w) = za_x 65 (.iload_n 1) 5 l st w := za_n.at zcc_65 dX6_sixteenFrom_5 rfl
theorem f_65_6 (l : za_L) (st : List Value) (w : za_W) : za_n 65 (6, l, st, w) = za_go 8 l (.int (16) :: st) w := (za_n.at zcc_65 dX6_sixteenFrom_6 rfl).trans (congrArg (fun x => za_go 8 l (.int x :: st) w) (by decide))
theorem f_65_8 (l : za_L) (st : List Value) (w : za_W) : za_n 65 (8, l, st, w) = za_x 65 (.iadd) 8 l st w := za_n.at zcc_65 dX6_sixteenFrom_8 rfl
theorem f_65_9 (l : za_L) (st : List Value) (w : za_W) : za_n 65 (9, l, st, w) = za_x 65 (.if_icmp .ge 27) 9 l st w := za_n.at zcc_65 dX6_sixteenFrom_9 rfl
theorem f_65_12 (l : za_L) (st : List Value) (w : za_W) : za_n 65 (12, l, st, w) = za_x 65 (.iload_n 3) 12 l st w := za_n.at zcc_65 dX6_sixteenFrom_12 rfl
theorem f_65_13 (l : za_L) (st : List Value) (w : za_W) : za_n 65 (13, l, st, w) = za_go 16 l (.int (256) :: st) w := (za_n.at zcc_65 dX6_sixteenFrom_13 rfl).trans (congrArg (fun x => za_go 16 l (.int x :: st) w) (by decide))
theorem f_65_16 (l : za_L) (st : List Value) (w : za_W) : za_n 65 (16, l, st, w) = za_x 65 (.if_icmp .ge 20) 16 l st w := za_n.at zcc_65 dX6_sixteenFrom_16 rfl
theorem f_65_19 (l : za_L) (st : List Value) (w : za_W) : za_n 65 (19, l, st, w) = za_x 65 (.iload_n 2) 19 l st w := za_n.at zcc_65 dX6_sixteenFrom_19 rfl
theorem f_65_20 (l : za_L) (st : List Value) (w : za_W) : za_n 65 (20, l, st, w) = za_go 21 l (.int (1) :: st) w := (za_n.at zcc_65 dX6_sixteenFrom_20 rfl).trans (congrArg (fun x => za_go 21 l (.int x :: st) w) (by decide))
theorem f_65_21 (l : za_L) (st : List Value) (w : za_W) : za_n 65 (21, l, st, w) = za_x 65 (.ishl) 21 l st w := za_n.at zcc_65 dX6_sixteenFrom_21 rfl
theorem f_65_22 (l : za_L) (st : List Value) (w : za_W) : za_n 65 (22, l, st, w) = za_x 65 (.aload_n 0) 22 l st w := za_n.at zcc_65 dX6_sixteenFrom_22 rfl
theorem f_65_23 (l : za_L) (st : List Value) (w : za_W) : za_n 65 (23, l, st, w) = za_x 65 (.getfield 36) 23 l st w := za_n.at zcc_65 dX6_sixteenFrom_23 rfl
theorem f_65_26 (l : za_L) (st : List Value) (w : za_W) : za_n 65 (26, l, st, w) = za_x 65 (.iload_n 3) 26 l st w := za_n.at zcc_65 dX6_sixteenFrom_26 rfl
theorem f_65_27 (l : za_L) (st : List Value) (w : za_W) : za_n 65 (27, l, st, w) = za_x 65 (.iaload) 27 l st w := za_n.at zcc_65 dX6_sixteenFrom_27 rfl
theorem f_65_28 (l : za_L) (st : List Value) (w : za_W) : za_n 65 (28, l, st, w) = za_x 65 (.ior) 28 l st w := za_n.at zcc_65 dX6_sixteenFrom_28 rfl
theorem f_65_29 (l : za_L) (st : List Value) (w : za_W) : za_n 65 (29, l, st, w) = za_x 65 (.istore_n 2) 29 l st w := za_n.at zcc_65 dX6_sixteenFrom_29 rfl
theorem f_65_30 (l : za_L) (st : List Value) (w : za_W) : za_n 65 (30, l, st, w) = za_x 65 (.iinc 3 1) 30 l st w := za_n.at zcc_65 dX6_sixteenFrom_30 rfl
theorem f_65_33 (l : za_L) (st : List Value) (w : za_W) : za_n 65 (33, l, st, w) = za_go 4 l st w := (za_n.at zcc_65 dX6_sixteenFrom_33 rfl).trans (za_jp.at (by decide))
theorem f_65_36 (l : za_L) (st : List Value) (w : za_W) : za_n 65 (36, l, st, w) = za_x 65 (.iload_n 2) 36 l st w := za_n.at zcc_65 dX6_sixteenFrom_36 rfl
theorem f_65_37 (l : za_L) (st : List Value) (w : za_W) : za_n 65 (37, l, st, w) = za_x 65 (.ireturn) 37 l st w := za_n.at zcc_65 dX6_sixteenFrom_37 rfl
theorem f_66_0 (l : za_L) (st : List Value) (w : za_W) : za_n 66 (0, l, st, w) = za_x 66 (.aload_n 0) 0 l st w := za_n.at zcc_66 dX6_writeChoices_0 rfl
theorem f_66_1 (l : za_L) (st : List Value) (w : za_W) : za_n 66 (1, l, st, w) = za_x 66 (.getfield 60) 1 l st w := za_n.at zcc_66 dX6_writeChoices_1 rfl
theorem f_66_4 (l : za_L) (st : List Value) (w : za_W) : za_n 66 (4, l, st, w) = za_go 5 l (.int (3) :: st) w := (za_n.at zcc_66 dX6_writeChoices_4 rfl).trans (congrArg (fun x => za_go 5 l (.int x :: st) w) (by decide))
theorem f_66_5 (l : za_L) (st : List Value) (w : za_W) : za_n 66 (5, l, st, w) = za_x 66 (.aload_n 1) 5 l st w := za_n.at zcc_66 dX6_writeChoices_5 rfl
theorem f_66_6 (l : za_L) (st : List Value) (w : za_W) : za_n 66 (6, l, st, w) = za_x 66 (.getfield 194) 6 l st w := za_n.at zcc_66 dX6_writeChoices_6 rfl
theorem f_66_9 (l : za_L) (st : List Value) (w : za_W) : za_n 66 (9, l, st, w) = za_x 66 (.i2l) 9 l st w := za_n.at zcc_66 dX6_writeChoices_9 rfl
theorem f_66_10 (l : za_L) (st : List Value) (w : za_W) : za_n 66 (10, l, st, w) = za_x 66 (.invokevirtual 75) 10 l st w := za_n.at zcc_66 dX6_writeChoices_10 rfl
theorem f_66_13 (l : za_L) (st : List Value) (w : za_W) : za_n 66 (13, l, st, w) = za_x 66 (.aload_n 0) 13 l st w := za_n.at zcc_66 dX6_writeChoices_13 rfl
theorem f_66_14 (l : za_L) (st : List Value) (w : za_W) : za_n 66 (14, l, st, w) = za_x 66 (.getfield 60) 14 l st w := za_n.at zcc_66 dX6_writeChoices_14 rfl
theorem f_66_17 (l : za_L) (st : List Value) (w : za_W) : za_n 66 (17, l, st, w) = za_go 19 l (.int (15) :: st) w := (za_n.at zcc_66 dX6_writeChoices_17 rfl).trans (congrArg (fun x => za_go 19 l (.int x :: st) w) (by decide))
theorem f_66_19 (l : za_L) (st : List Value) (w : za_W) : za_n 66 (19, l, st, w) = za_x 66 (.aload_n 1) 19 l st w := za_n.at zcc_66 dX6_writeChoices_19 rfl
theorem f_66_20 (l : za_L) (st : List Value) (w : za_W) : za_n 66 (20, l, st, w) = za_x 66 (.getfield 197) 20 l st w := za_n.at zcc_66 dX6_writeChoices_20 rfl
theorem f_66_23 (l : za_L) (st : List Value) (w : za_W) : za_n 66 (23, l, st, w) = za_x 66 (.i2l) 23 l st w := za_n.at zcc_66 dX6_writeChoices_23 rfl
theorem f_66_24 (l : za_L) (st : List Value) (w : za_W) : za_n 66 (24, l, st, w) = za_x 66 (.invokevirtual 75) 24 l st w := za_n.at zcc_66 dX6_writeChoices_24 rfl
theorem f_66_27 (l : za_L) (st : List Value) (w : za_W) : za_n 66 (27, l, st, w) = za_x 66 (.aload_n 0) 27 l st w := za_n.at zcc_66 dX6_writeChoices_27 rfl
theorem f_66_28 (l : za_L) (st : List Value) (w : za_W) : za_n 66 (28, l, st, w) = za_x 66 (.getfield 20) 28 l st w := za_n.at zcc_66 dX6_writeChoices_28 rfl
theorem f_66_31 (l : za_L) (st : List Value) (w : za_W) : za_n 66 (31, l, st, w) = za_x 66 (.aload_n 1) 31 l st w := za_n.at zcc_66 dX6_writeChoices_31 rfl
theorem f_66_32 (l : za_L) (st : List Value) (w : za_W) : za_n 66 (32, l, st, w) = za_x 66 (.getfield 194) 32 l st w := za_n.at zcc_66 dX6_writeChoices_32 rfl
theorem f_66_35 (l : za_L) (st : List Value) (w : za_W) : za_n 66 (35, l, st, w) = za_x 66 (.invokevirtual 233) 35 l st w := za_n.at zcc_66 dX6_writeChoices_35 rfl
theorem f_66_38 (l : za_L) (st : List Value) (w : za_W) : za_n 66 (38, l, st, w) = za_go 39 l (.int (0) :: st) w := (za_n.at zcc_66 dX6_writeChoices_38 rfl).trans (congrArg (fun x => za_go 39 l (.int x :: st) w) (by decide))
theorem f_66_39 (l : za_L) (st : List Value) (w : za_W) : za_n 66 (39, l, st, w) = za_x 66 (.istore_n 2) 39 l st w := za_n.at zcc_66 dX6_writeChoices_39 rfl
theorem f_66_40 (l : za_L) (st : List Value) (w : za_W) : za_n 66 (40, l, st, w) = za_x 66 (.iload_n 2) 40 l st w := za_n.at zcc_66 dX6_writeChoices_40 rfl
theorem f_66_41 (l : za_L) (st : List Value) (w : za_W) : za_n 66 (41, l, st, w) = za_x 66 (.aload_n 1) 41 l st w := za_n.at zcc_66 dX6_writeChoices_41 rfl
theorem f_66_42 (l : za_L) (st : List Value) (w : za_W) : za_n 66 (42, l, st, w) = za_x 66 (.getfield 197) 42 l st w := za_n.at zcc_66 dX6_writeChoices_42 rfl
theorem f_66_45 (l : za_L) (st : List Value) (w : za_W) : za_n 66 (45, l, st, w) = za_x 66 (.if_icmp .ge 36) 45 l st w := za_n.at zcc_66 dX6_writeChoices_45 rfl
theorem f_66_48 (l : za_L) (st : List Value) (w : za_W) : za_n 66 (48, l, st, w) = za_x 66 (.aload_n 0) 48 l st w := za_n.at zcc_66 dX6_writeChoices_48 rfl
theorem f_66_49 (l : za_L) (st : List Value) (w : za_W) : za_n 66 (49, l, st, w) = za_x 66 (.getfield 60) 49 l st w := za_n.at zcc_66 dX6_writeChoices_49 rfl
theorem f_66_52 (l : za_L) (st : List Value) (w : za_W) : za_n 66 (52, l, st, w) = za_x 66 (.aload_n 0) 52 l st w := za_n.at zcc_66 dX6_writeChoices_52 rfl
theorem f_66_53 (l : za_L) (st : List Value) (w : za_W) : za_n 66 (53, l, st, w) = za_x 66 (.getfield 20) 53 l st w := za_n.at zcc_66 dX6_writeChoices_53 rfl
theorem f_66_56 (l : za_L) (st : List Value) (w : za_W) : za_n 66 (56, l, st, w) = za_x 66 (.aload_n 1) 56 l st w := za_n.at zcc_66 dX6_writeChoices_56 rfl
theorem f_66_57 (l : za_L) (st : List Value) (w : za_W) : za_n 66 (57, l, st, w) = za_x 66 (.iload_n 2) 57 l st w := za_n.at zcc_66 dX6_writeChoices_57 rfl
theorem f_66_58 (l : za_L) (st : List Value) (w : za_W) : za_n 66 (58, l, st, w) = za_x 66 (.invokevirtual 235) 58 l st w := za_n.at zcc_66 dX6_writeChoices_58 rfl
theorem f_66_61 (l : za_L) (st : List Value) (w : za_W) : za_n 66 (61, l, st, w) = za_x 66 (.invokevirtual 216) 61 l st w := za_n.at zcc_66 dX6_writeChoices_61 rfl
theorem f_66_64 (l : za_L) (st : List Value) (w : za_W) : za_n 66 (64, l, st, w) = za_x 66 (.invokevirtual 238) 64 l st w := za_n.at zcc_66 dX6_writeChoices_64 rfl
theorem f_66_67 (l : za_L) (st : List Value) (w : za_W) : za_n 66 (67, l, st, w) = za_x 66 (.aload_n 0) 67 l st w := za_n.at zcc_66 dX6_writeChoices_67 rfl
theorem f_66_68 (l : za_L) (st : List Value) (w : za_W) : za_n 66 (68, l, st, w) = za_x 66 (.getfield 60) 68 l st w := za_n.at zcc_66 dX6_writeChoices_68 rfl
theorem f_66_71 (l : za_L) (st : List Value) (w : za_W) : za_n 66 (71, l, st, w) = za_go 72 l (.int (0) :: st) w := (za_n.at zcc_66 dX6_writeChoices_71 rfl).trans (congrArg (fun x => za_go 72 l (.int x :: st) w) (by decide))
theorem f_66_72 (l : za_L) (st : List Value) (w : za_W) : za_n 66 (72, l, st, w) = za_x 66 (.invokevirtual 227) 72 l st w := za_n.at zcc_66 dX6_writeChoices_72 rfl
theorem f_66_75 (l : za_L) (st : List Value) (w : za_W) : za_n 66 (75, l, st, w) = za_x 66 (.iinc 2 1) 75 l st w := za_n.at zcc_66 dX6_writeChoices_75 rfl
theorem f_66_78 (l : za_L) (st : List Value) (w : za_W) : za_n 66 (78, l, st, w) = za_go 40 l st w := (za_n.at zcc_66 dX6_writeChoices_78 rfl).trans (za_jp.at (by decide))
theorem f_66_81 (l : za_L) (st : List Value) (w : za_W) : za_n 66 (81, l, st, w) = za_x 66 (.return_) 81 l st w := za_n.at zcc_66 dX6_writeChoices_81 rfl
theorem f_67_0 (l : za_L) (st : List Value) (w : za_W) : za_n 67 (0, l, st, w) = za_go 1 l (.int (0) :: st) w := (za_n.at zcc_67 dX6_writeLengths_0 rfl).trans (congrArg (fun x => za_go 1 l (.int x :: st) w) (by decide))
theorem f_67_1 (l : za_L) (st : List Value) (w : za_W) : za_n 67 (1, l, st, w) = za_x 67 (.istore_n 2) 1 l st w := za_n.at zcc_67 dX6_writeLengths_1 rfl
theorem f_67_2 (l : za_L) (st : List Value) (w : za_W) : za_n 67 (2, l, st, w) = za_x 67 (.iload_n 2) 2 l st w := za_n.at zcc_67 dX6_writeLengths_2 rfl
theorem f_67_3 (l : za_L) (st : List Value) (w : za_W) : za_n 67 (3, l, st, w) = za_x 67 (.aload_n 1) 3 l st w := za_n.at zcc_67 dX6_writeLengths_3 rfl
theorem f_67_4 (l : za_L) (st : List Value) (w : za_W) : za_n 67 (4, l, st, w) = za_x 67 (.getfield 194) 4 l st w := za_n.at zcc_67 dX6_writeLengths_4 rfl
theorem f_67_7 (l : za_L) (st : List Value) (w : za_W) : za_n 67 (7, l, st, w) = za_x 67 (.if_icmp .ge 122) 7 l st w := za_n.at zcc_67 dX6_writeLengths_7 rfl
theorem f_67_10 (l : za_L) (st : List Value) (w : za_W) : za_n 67 (10, l, st, w) = za_x 67 (.aload_n 1) 10 l st w := za_n.at zcc_67 dX6_writeLengths_10 rfl
theorem f_67_11 (l : za_L) (st : List Value) (w : za_W) : za_n 67 (11, l, st, w) = za_x 67 (.getfield 241) 11 l st w := za_n.at zcc_67 dX6_writeLengths_11 rfl
theorem f_67_14 (l : za_L) (st : List Value) (w : za_W) : za_n 67 (14, l, st, w) = za_x 67 (.iload_n 2) 14 l st w := za_n.at zcc_67 dX6_writeLengths_14 rfl
theorem f_67_15 (l : za_L) (st : List Value) (w : za_W) : za_n 67 (15, l, st, w) = za_x 67 (.aaload) 15 l st w := za_n.at zcc_67 dX6_writeLengths_15 rfl
theorem f_67_16 (l : za_L) (st : List Value) (w : za_W) : za_n 67 (16, l, st, w) = za_go 17 l (.int (0) :: st) w := (za_n.at zcc_67 dX6_writeLengths_16 rfl).trans (congrArg (fun x => za_go 17 l (.int x :: st) w) (by decide))
theorem f_67_17 (l : za_L) (st : List Value) (w : za_W) : za_n 67 (17, l, st, w) = za_x 67 (.iaload) 17 l st w := za_n.at zcc_67 dX6_writeLengths_17 rfl
theorem f_67_18 (l : za_L) (st : List Value) (w : za_W) : za_n 67 (18, l, st, w) = za_x 67 (.istore_n 3) 18 l st w := za_n.at zcc_67 dX6_writeLengths_18 rfl
theorem f_67_19 (l : za_L) (st : List Value) (w : za_W) : za_n 67 (19, l, st, w) = za_x 67 (.aload_n 0) 19 l st w := za_n.at zcc_67 dX6_writeLengths_19 rfl
theorem f_67_20 (l : za_L) (st : List Value) (w : za_W) : za_n 67 (20, l, st, w) = za_x 67 (.getfield 60) 20 l st w := za_n.at zcc_67 dX6_writeLengths_20 rfl
theorem f_67_23 (l : za_L) (st : List Value) (w : za_W) : za_n 67 (23, l, st, w) = za_go 24 l (.int (5) :: st) w := (za_n.at zcc_67 dX6_writeLengths_23 rfl).trans (congrArg (fun x => za_go 24 l (.int x :: st) w) (by decide))
theorem f_67_24 (l : za_L) (st : List Value) (w : za_W) : za_n 67 (24, l, st, w) = za_x 67 (.iload_n 3) 24 l st w := za_n.at zcc_67 dX6_writeLengths_24 rfl
theorem f_67_25 (l : za_L) (st : List Value) (w : za_W) : za_n 67 (25, l, st, w) = za_x 67 (.i2l) 25 l st w := za_n.at zcc_67 dX6_writeLengths_25 rfl
theorem f_67_26 (l : za_L) (st : List Value) (w : za_W) : za_n 67 (26, l, st, w) = za_x 67 (.invokevirtual 75) 26 l st w := za_n.at zcc_67 dX6_writeLengths_26 rfl
theorem f_67_29 (l : za_L) (st : List Value) (w : za_W) : za_n 67 (29, l, st, w) = za_go 30 l (.int (0) :: st) w := (za_n.at zcc_67 dX6_writeLengths_29 rfl).trans (congrArg (fun x => za_go 30 l (.int x :: st) w) (by decide))
theorem f_67_30 (l : za_L) (st : List Value) (w : za_W) : za_n 67 (30, l, st, w) = za_x 67 (.istore 4) 30 l st w := za_n.at zcc_67 dX6_writeLengths_30 rfl
theorem f_67_32 (l : za_L) (st : List Value) (w : za_W) : za_n 67 (32, l, st, w) = za_x 67 (.iload 4) 32 l st w := za_n.at zcc_67 dX6_writeLengths_32 rfl
theorem f_67_34 (l : za_L) (st : List Value) (w : za_W) : za_n 67 (34, l, st, w) = za_x 67 (.aload_n 1) 34 l st w := za_n.at zcc_67 dX6_writeLengths_34 rfl
theorem f_67_35 (l : za_L) (st : List Value) (w : za_W) : za_n 67 (35, l, st, w) = za_x 67 (.getfield 147) 35 l st w := za_n.at zcc_67 dX6_writeLengths_35 rfl
theorem f_67_38 (l : za_L) (st : List Value) (w : za_W) : za_n 67 (38, l, st, w) = za_x 67 (.if_icmp .ge 85) 38 l st w := za_n.at zcc_67 dX6_writeLengths_38 rfl
theorem f_67_41 (l : za_L) (st : List Value) (w : za_W) : za_n 67 (41, l, st, w) = za_x 67 (.aload_n 1) 41 l st w := za_n.at zcc_67 dX6_writeLengths_41 rfl
theorem f_67_42 (l : za_L) (st : List Value) (w : za_W) : za_n 67 (42, l, st, w) = za_x 67 (.getfield 241) 42 l st w := za_n.at zcc_67 dX6_writeLengths_42 rfl
theorem f_67_45 (l : za_L) (st : List Value) (w : za_W) : za_n 67 (45, l, st, w) = za_x 67 (.iload_n 2) 45 l st w := za_n.at zcc_67 dX6_writeLengths_45 rfl
theorem f_67_46 (l : za_L) (st : List Value) (w : za_W) : za_n 67 (46, l, st, w) = za_x 67 (.aaload) 46 l st w := za_n.at zcc_67 dX6_writeLengths_46 rfl
theorem f_67_47 (l : za_L) (st : List Value) (w : za_W) : za_n 67 (47, l, st, w) = za_x 67 (.iload 4) 47 l st w := za_n.at zcc_67 dX6_writeLengths_47 rfl
theorem f_67_49 (l : za_L) (st : List Value) (w : za_W) : za_n 67 (49, l, st, w) = za_x 67 (.iaload) 49 l st w := za_n.at zcc_67 dX6_writeLengths_49 rfl
theorem f_67_50 (l : za_L) (st : List Value) (w : za_W) : za_n 67 (50, l, st, w) = za_x 67 (.istore 5) 50 l st w := za_n.at zcc_67 dX6_writeLengths_50 rfl
theorem f_67_52 (l : za_L) (st : List Value) (w : za_W) : za_n 67 (52, l, st, w) = za_x 67 (.iload_n 3) 52 l st w := za_n.at zcc_67 dX6_writeLengths_52 rfl
theorem f_67_53 (l : za_L) (st : List Value) (w : za_W) : za_n 67 (53, l, st, w) = za_x 67 (.istore 6) 53 l st w := za_n.at zcc_67 dX6_writeLengths_53 rfl
theorem f_67_55 (l : za_L) (st : List Value) (w : za_W) : za_n 67 (55, l, st, w) = za_x 67 (.iload 6) 55 l st w := za_n.at zcc_67 dX6_writeLengths_55 rfl
theorem f_67_57 (l : za_L) (st : List Value) (w : za_W) : za_n 67 (57, l, st, w) = za_x 67 (.iload 5) 57 l st w := za_n.at zcc_67 dX6_writeLengths_57 rfl
theorem f_67_59 (l : za_L) (st : List Value) (w : za_W) : za_n 67 (59, l, st, w) = za_x 67 (.if_icmp .ge 20) 59 l st w := za_n.at zcc_67 dX6_writeLengths_59 rfl
theorem f_67_62 (l : za_L) (st : List Value) (w : za_W) : za_n 67 (62, l, st, w) = za_x 67 (.aload_n 0) 62 l st w := za_n.at zcc_67 dX6_writeLengths_62 rfl
theorem f_67_63 (l : za_L) (st : List Value) (w : za_W) : za_n 67 (63, l, st, w) = za_x 67 (.getfield 60) 63 l st w := za_n.at zcc_67 dX6_writeLengths_63 rfl
theorem f_67_66 (l : za_L) (st : List Value) (w : za_W) : za_n 67 (66, l, st, w) = za_go 67 l (.int (2) :: st) w := (za_n.at zcc_67 dX6_writeLengths_66 rfl).trans (congrArg (fun x => za_go 67 l (.int x :: st) w) (by decide))
theorem f_67_67 (l : za_L) (st : List Value) (w : za_W) : za_n 67 (67, l, st, w) = za_x 67 (.ldc2_w 245) 67 l st w := za_n.at zcc_67 dX6_writeLengths_67 rfl
theorem f_67_70 (l : za_L) (st : List Value) (w : za_W) : za_n 67 (70, l, st, w) = za_x 67 (.invokevirtual 75) 70 l st w := za_n.at zcc_67 dX6_writeLengths_70 rfl
theorem f_67_73 (l : za_L) (st : List Value) (w : za_W) : za_n 67 (73, l, st, w) = za_x 67 (.iinc 6 1) 73 l st w := za_n.at zcc_67 dX6_writeLengths_73 rfl
theorem f_67_76 (l : za_L) (st : List Value) (w : za_W) : za_n 67 (76, l, st, w) = za_go 55 l st w := (za_n.at zcc_67 dX6_writeLengths_76 rfl).trans (za_jp.at (by decide))
theorem f_67_79 (l : za_L) (st : List Value) (w : za_W) : za_n 67 (79, l, st, w) = za_x 67 (.iload_n 3) 79 l st w := za_n.at zcc_67 dX6_writeLengths_79 rfl
theorem f_67_80 (l : za_L) (st : List Value) (w : za_W) : za_n 67 (80, l, st, w) = za_x 67 (.istore 6) 80 l st w := za_n.at zcc_67 dX6_writeLengths_80 rfl
theorem f_67_82 (l : za_L) (st : List Value) (w : za_W) : za_n 67 (82, l, st, w) = za_x 67 (.iload 6) 82 l st w := za_n.at zcc_67 dX6_writeLengths_82 rfl
theorem f_67_84 (l : za_L) (st : List Value) (w : za_W) : za_n 67 (84, l, st, w) = za_x 67 (.iload 5) 84 l st w := za_n.at zcc_67 dX6_writeLengths_84 rfl
theorem f_67_86 (l : za_L) (st : List Value) (w : za_W) : za_n 67 (86, l, st, w) = za_x 67 (.if_icmp .le 20) 86 l st w := za_n.at zcc_67 dX6_writeLengths_86 rfl
theorem f_67_89 (l : za_L) (st : List Value) (w : za_W) : za_n 67 (89, l, st, w) = za_x 67 (.aload_n 0) 89 l st w := za_n.at zcc_67 dX6_writeLengths_89 rfl
theorem f_67_90 (l : za_L) (st : List Value) (w : za_W) : za_n 67 (90, l, st, w) = za_x 67 (.getfield 60) 90 l st w := za_n.at zcc_67 dX6_writeLengths_90 rfl
theorem f_67_93 (l : za_L) (st : List Value) (w : za_W) : za_n 67 (93, l, st, w) = za_go 94 l (.int (2) :: st) w := (za_n.at zcc_67 dX6_writeLengths_93 rfl).trans (congrArg (fun x => za_go 94 l (.int x :: st) w) (by decide))
theorem f_67_94 (l : za_L) (st : List Value) (w : za_W) : za_n 67 (94, l, st, w) = za_x 67 (.ldc2_w 247) 94 l st w := za_n.at zcc_67 dX6_writeLengths_94 rfl
theorem f_67_97 (l : za_L) (st : List Value) (w : za_W) : za_n 67 (97, l, st, w) = za_x 67 (.invokevirtual 75) 97 l st w := za_n.at zcc_67 dX6_writeLengths_97 rfl
theorem f_67_100 (l : za_L) (st : List Value) (w : za_W) : za_n 67 (100, l, st, w) = za_x 67 (.iinc 6 (-1)) 100 l st w := za_n.at zcc_67 dX6_writeLengths_100 rfl
theorem f_67_103 (l : za_L) (st : List Value) (w : za_W) : za_n 67 (103, l, st, w) = za_go 82 l st w := (za_n.at zcc_67 dX6_writeLengths_103 rfl).trans (za_jp.at (by decide))
theorem f_67_106 (l : za_L) (st : List Value) (w : za_W) : za_n 67 (106, l, st, w) = za_x 67 (.aload_n 0) 106 l st w := za_n.at zcc_67 dX6_writeLengths_106 rfl
theorem f_67_107 (l : za_L) (st : List Value) (w : za_W) : za_n 67 (107, l, st, w) = za_x 67 (.getfield 60) 107 l st w := za_n.at zcc_67 dX6_writeLengths_107 rfl
theorem f_67_110 (l : za_L) (st : List Value) (w : za_W) : za_n 67 (110, l, st, w) = za_go 111 l (.int (0) :: st) w := (za_n.at zcc_67 dX6_writeLengths_110 rfl).trans (congrArg (fun x => za_go 111 l (.int x :: st) w) (by decide))
theorem f_67_111 (l : za_L) (st : List Value) (w : za_W) : za_n 67 (111, l, st, w) = za_x 67 (.invokevirtual 227) 111 l st w := za_n.at zcc_67 dX6_writeLengths_111 rfl
theorem f_67_114 (l : za_L) (st : List Value) (w : za_W) : za_n 67 (114, l, st, w) = za_x 67 (.iload 5) 114 l st w := za_n.at zcc_67 dX6_writeLengths_114 rfl
theorem f_67_116 (l : za_L) (st : List Value) (w : za_W) : za_n 67 (116, l, st, w) = za_x 67 (.istore_n 3) 116 l st w := za_n.at zcc_67 dX6_writeLengths_116 rfl
theorem f_67_117 (l : za_L) (st : List Value) (w : za_W) : za_n 67 (117, l, st, w) = za_x 67 (.iinc 4 1) 117 l st w := za_n.at zcc_67 dX6_writeLengths_117 rfl
theorem f_67_120 (l : za_L) (st : List Value) (w : za_W) : za_n 67 (120, l, st, w) = za_go 32 l st w := (za_n.at zcc_67 dX6_writeLengths_120 rfl).trans (za_jp.at (by decide))
theorem f_67_123 (l : za_L) (st : List Value) (w : za_W) : za_n 67 (123, l, st, w) = za_x 67 (.iinc 2 1) 123 l st w := za_n.at zcc_67 dX6_writeLengths_123 rfl
theorem f_67_126 (l : za_L) (st : List Value) (w : za_W) : za_n 67 (126, l, st, w) = za_go 2 l st w := (za_n.at zcc_67 dX6_writeLengths_126 rfl).trans (za_jp.at (by decide))
theorem f_67_129 (l : za_L) (st : List Value) (w : za_W) : za_n 67 (129, l, st, w) = za_x 67 (.return_) 129 l st w := za_n.at zcc_67 dX6_writeLengths_129 rfl
theorem f_68_0 (l : za_L) (st : List Value) (w : za_W) : za_n 68 (0, l, st, w) = za_go 1 l (.int (0) :: st) w := (za_n.at zcc_68 dX6_writeCodes_0 rfl).trans (congrArg (fun x => za_go 1 l (.int x :: st) w) (by decide))
theorem f_68_1 (l : za_L) (st : List Value) (w : za_W) : za_n 68 (1, l, st, w) = za_x 68 (.istore_n 2) 1 l st w := za_n.at zcc_68 dX6_writeCodes_1 rfl
theorem f_68_2 (l : za_L) (st : List Value) (w : za_W) : za_n 68 (2, l, st, w) = za_x 68 (.iload_n 2) 2 l st w := za_n.at zcc_68 dX6_writeCodes_2 rfl
theorem f_68_3 (l : za_L) (st : List Value) (w : za_W) : za_n 68 (3, l, st, w) = za_x 68 (.aload_n 1) 3 l st w := za_n.at zcc_68 dX6_writeCodes_3 rfl
theorem f_68_4 (l : za_L) (st : List Value) (w : za_W) : za_n 68 (4, l, st, w) = za_x 68 (.getfield 194) 4 l st w := za_n.at zcc_68 dX6_writeCodes_4 rfl
theorem f_68_7 (l : za_L) (st : List Value) (w : za_W) : za_n 68 (7, l, st, w) = za_x 68 (.if_icmp .ge 28) 7 l st w := za_n.at zcc_68 dX6_writeCodes_7 rfl
theorem f_68_10 (l : za_L) (st : List Value) (w : za_W) : za_n 68 (10, l, st, w) = za_x 68 (.aload_n 0) 10 l st w := za_n.at zcc_68 dX6_writeCodes_10 rfl
theorem f_68_11 (l : za_L) (st : List Value) (w : za_W) : za_n 68 (11, l, st, w) = za_x 68 (.getfield 32) 11 l st w := za_n.at zcc_68 dX6_writeCodes_11 rfl
theorem f_68_14 (l : za_L) (st : List Value) (w : za_W) : za_n 68 (14, l, st, w) = za_x 68 (.iload_n 2) 14 l st w := za_n.at zcc_68 dX6_writeCodes_14 rfl
theorem f_68_15 (l : za_L) (st : List Value) (w : za_W) : za_n 68 (15, l, st, w) = za_x 68 (.aaload) 15 l st w := za_n.at zcc_68 dX6_writeCodes_15 rfl
theorem f_68_16 (l : za_L) (st : List Value) (w : za_W) : za_n 68 (16, l, st, w) = za_x 68 (.aload_n 1) 16 l st w := za_n.at zcc_68 dX6_writeCodes_16 rfl
theorem f_68_17 (l : za_L) (st : List Value) (w : za_W) : za_n 68 (17, l, st, w) = za_x 68 (.getfield 241) 17 l st w := za_n.at zcc_68 dX6_writeCodes_17 rfl
theorem f_68_20 (l : za_L) (st : List Value) (w : za_W) : za_n 68 (20, l, st, w) = za_x 68 (.iload_n 2) 20 l st w := za_n.at zcc_68 dX6_writeCodes_20 rfl
theorem f_68_21 (l : za_L) (st : List Value) (w : za_W) : za_n 68 (21, l, st, w) = za_x 68 (.aaload) 21 l st w := za_n.at zcc_68 dX6_writeCodes_21 rfl
theorem f_68_22 (l : za_L) (st : List Value) (w : za_W) : za_n 68 (22, l, st, w) = za_x 68 (.aload_n 1) 22 l st w := za_n.at zcc_68 dX6_writeCodes_22 rfl
theorem f_68_23 (l : za_L) (st : List Value) (w : za_W) : za_n 68 (23, l, st, w) = za_x 68 (.getfield 147) 23 l st w := za_n.at zcc_68 dX6_writeCodes_23 rfl
theorem f_68_26 (l : za_L) (st : List Value) (w : za_W) : za_n 68 (26, l, st, w) = za_x 68 (.invokevirtual 249) 26 l st w := za_n.at zcc_68 dX6_writeCodes_26 rfl
theorem f_68_29 (l : za_L) (st : List Value) (w : za_W) : za_n 68 (29, l, st, w) = za_x 68 (.iinc 2 1) 29 l st w := za_n.at zcc_68 dX6_writeCodes_29 rfl
theorem f_68_32 (l : za_L) (st : List Value) (w : za_W) : za_n 68 (32, l, st, w) = za_go 2 l st w := (za_n.at zcc_68 dX6_writeCodes_32 rfl).trans (za_jp.at (by decide))
theorem f_68_35 (l : za_L) (st : List Value) (w : za_W) : za_n 68 (35, l, st, w) = za_go 36 l (.int (0) :: st) w := (za_n.at zcc_68 dX6_writeCodes_35 rfl).trans (congrArg (fun x => za_go 36 l (.int x :: st) w) (by decide))
theorem f_68_36 (l : za_L) (st : List Value) (w : za_W) : za_n 68 (36, l, st, w) = za_x 68 (.istore_n 2) 36 l st w := za_n.at zcc_68 dX6_writeCodes_36 rfl
theorem f_68_37 (l : za_L) (st : List Value) (w : za_W) : za_n 68 (37, l, st, w) = za_x 68 (.iload_n 2) 37 l st w := za_n.at zcc_68 dX6_writeCodes_37 rfl
theorem f_68_38 (l : za_L) (st : List Value) (w : za_W) : za_n 68 (38, l, st, w) = za_x 68 (.aload_n 0) 38 l st w := za_n.at zcc_68 dX6_writeCodes_38 rfl
theorem f_68_39 (l : za_L) (st : List Value) (w : za_W) : za_n 68 (39, l, st, w) = za_x 68 (.getfield 152) 39 l st w := za_n.at zcc_68 dX6_writeCodes_39 rfl
theorem f_68_42 (l : za_L) (st : List Value) (w : za_W) : za_n 68 (42, l, st, w) = za_x 68 (.if_icmp .ge 55) 42 l st w := za_n.at zcc_68 dX6_writeCodes_42 rfl
theorem f_68_45 (l : za_L) (st : List Value) (w : za_W) : za_n 68 (45, l, st, w) = za_x 68 (.aload_n 1) 45 l st w := za_n.at zcc_68 dX6_writeCodes_45 rfl
theorem f_68_46 (l : za_L) (st : List Value) (w : za_W) : za_n 68 (46, l, st, w) = za_x 68 (.iload_n 2) 46 l st w := za_n.at zcc_68 dX6_writeCodes_46 rfl
theorem f_68_47 (l : za_L) (st : List Value) (w : za_W) : za_n 68 (47, l, st, w) = za_go 49 l (.int (50) :: st) w := (za_n.at zcc_68 dX6_writeCodes_47 rfl).trans (congrArg (fun x => za_go 49 l (.int x :: st) w) (by decide))
theorem f_68_49 (l : za_L) (st : List Value) (w : za_W) : za_n 68 (49, l, st, w) = za_x 68 (.idiv) 49 l st w := za_n.at zcc_68 dX6_writeCodes_49 rfl
theorem f_68_50 (l : za_L) (st : List Value) (w : za_W) : za_n 68 (50, l, st, w) = za_x 68 (.invokevirtual 235) 50 l st w := za_n.at zcc_68 dX6_writeCodes_50 rfl
theorem f_68_53 (l : za_L) (st : List Value) (w : za_W) : za_n 68 (53, l, st, w) = za_x 68 (.istore_n 3) 53 l st w := za_n.at zcc_68 dX6_writeCodes_53 rfl
theorem f_68_54 (l : za_L) (st : List Value) (w : za_W) : za_n 68 (54, l, st, w) = za_x 68 (.aload_n 0) 54 l st w := za_n.at zcc_68 dX6_writeCodes_54 rfl
theorem f_68_55 (l : za_L) (st : List Value) (w : za_W) : za_n 68 (55, l, st, w) = za_x 68 (.getfield 60) 55 l st w := za_n.at zcc_68 dX6_writeCodes_55 rfl
theorem f_68_58 (l : za_L) (st : List Value) (w : za_W) : za_n 68 (58, l, st, w) = za_x 68 (.aload_n 1) 58 l st w := za_n.at zcc_68 dX6_writeCodes_58 rfl
theorem f_68_59 (l : za_L) (st : List Value) (w : za_W) : za_n 68 (59, l, st, w) = za_x 68 (.getfield 241) 59 l st w := za_n.at zcc_68 dX6_writeCodes_59 rfl
theorem f_68_62 (l : za_L) (st : List Value) (w : za_W) : za_n 68 (62, l, st, w) = za_x 68 (.iload_n 3) 62 l st w := za_n.at zcc_68 dX6_writeCodes_62 rfl
theorem f_68_63 (l : za_L) (st : List Value) (w : za_W) : za_n 68 (63, l, st, w) = za_x 68 (.aaload) 63 l st w := za_n.at zcc_68 dX6_writeCodes_63 rfl
theorem f_68_64 (l : za_L) (st : List Value) (w : za_W) : za_n 68 (64, l, st, w) = za_x 68 (.aload_n 0) 64 l st w := za_n.at zcc_68 dX6_writeCodes_64 rfl
theorem f_68_65 (l : za_L) (st : List Value) (w : za_W) : za_n 68 (65, l, st, w) = za_x 68 (.getfield 44) 65 l st w := za_n.at zcc_68 dX6_writeCodes_65 rfl
theorem f_68_68 (l : za_L) (st : List Value) (w : za_W) : za_n 68 (68, l, st, w) = za_x 68 (.iload_n 2) 68 l st w := za_n.at zcc_68 dX6_writeCodes_68 rfl
theorem f_68_69 (l : za_L) (st : List Value) (w : za_W) : za_n 68 (69, l, st, w) = za_x 68 (.iaload) 69 l st w := za_n.at zcc_68 dX6_writeCodes_69 rfl
theorem f_68_70 (l : za_L) (st : List Value) (w : za_W) : za_n 68 (70, l, st, w) = za_x 68 (.iaload) 70 l st w := za_n.at zcc_68 dX6_writeCodes_70 rfl
theorem f_68_71 (l : za_L) (st : List Value) (w : za_W) : za_n 68 (71, l, st, w) = za_x 68 (.aload_n 0) 71 l st w := za_n.at zcc_68 dX6_writeCodes_71 rfl
theorem f_68_72 (l : za_L) (st : List Value) (w : za_W) : za_n 68 (72, l, st, w) = za_x 68 (.getfield 32) 72 l st w := za_n.at zcc_68 dX6_writeCodes_72 rfl
theorem f_68_75 (l : za_L) (st : List Value) (w : za_W) : za_n 68 (75, l, st, w) = za_x 68 (.iload_n 3) 75 l st w := za_n.at zcc_68 dX6_writeCodes_75 rfl
theorem f_68_76 (l : za_L) (st : List Value) (w : za_W) : za_n 68 (76, l, st, w) = za_x 68 (.aaload) 76 l st w := za_n.at zcc_68 dX6_writeCodes_76 rfl
theorem f_68_77 (l : za_L) (st : List Value) (w : za_W) : za_n 68 (77, l, st, w) = za_x 68 (.getfield 252) 77 l st w := za_n.at zcc_68 dX6_writeCodes_77 rfl
theorem f_68_80 (l : za_L) (st : List Value) (w : za_W) : za_n 68 (80, l, st, w) = za_x 68 (.aload_n 0) 80 l st w := za_n.at zcc_68 dX6_writeCodes_80 rfl
theorem f_68_81 (l : za_L) (st : List Value) (w : za_W) : za_n 68 (81, l, st, w) = za_x 68 (.getfield 44) 81 l st w := za_n.at zcc_68 dX6_writeCodes_81 rfl
theorem f_68_84 (l : za_L) (st : List Value) (w : za_W) : za_n 68 (84, l, st, w) = za_x 68 (.iload_n 2) 84 l st w := za_n.at zcc_68 dX6_writeCodes_84 rfl
theorem f_68_85 (l : za_L) (st : List Value) (w : za_W) : za_n 68 (85, l, st, w) = za_x 68 (.iaload) 85 l st w := za_n.at zcc_68 dX6_writeCodes_85 rfl
theorem f_68_86 (l : za_L) (st : List Value) (w : za_W) : za_n 68 (86, l, st, w) = za_x 68 (.iaload) 86 l st w := za_n.at zcc_68 dX6_writeCodes_86 rfl
theorem f_68_87 (l : za_L) (st : List Value) (w : za_W) : za_n 68 (87, l, st, w) = za_x 68 (.i2l) 87 l st w := za_n.at zcc_68 dX6_writeCodes_87 rfl
theorem f_68_88 (l : za_L) (st : List Value) (w : za_W) : za_n 68 (88, l, st, w) = za_x 68 (.invokevirtual 75) 88 l st w := za_n.at zcc_68 dX6_writeCodes_88 rfl
theorem f_68_91 (l : za_L) (st : List Value) (w : za_W) : za_n 68 (91, l, st, w) = za_x 68 (.iinc 2 1) 91 l st w := za_n.at zcc_68 dX6_writeCodes_91 rfl
theorem f_68_94 (l : za_L) (st : List Value) (w : za_W) : za_n 68 (94, l, st, w) = za_go 37 l st w := (za_n.at zcc_68 dX6_writeCodes_94 rfl).trans (za_jp.at (by decide))
theorem f_68_97 (l : za_L) (st : List Value) (w : za_W) : za_n 68 (97, l, st, w) = za_x 68 (.return_) 97 l st w := za_n.at zcc_68 dX6_writeCodes_97 rfl
theorem f_69_0 (l : za_L) (st : List Value) (w : za_W) : za_n 69 (0, l, st, w) = za_x 69 (.aload_n 0) 0 l st w := za_n.at zcc_69 dX7_init_0 rfl
theorem f_69_1 (l : za_L) (st : List Value) (w : za_W) : za_n 69 (1, l, st, w) = za_x 69 (.invokespecial 1) 1 l st w := za_n.at zcc_69 dX7_init_1 rfl
theorem f_69_4 (l : za_L) (st : List Value) (w : za_W) : za_n 69 (4, l, st, w) = za_x 69 (.aload_n 0) 4 l st w := za_n.at zcc_69 dX7_init_4 rfl
theorem f_69_5 (l : za_L) (st : List Value) (w : za_W) : za_n 69 (5, l, st, w) = za_go 6 l (.int (0) :: st) w := (za_n.at zcc_69 dX7_init_5 rfl).trans (congrArg (fun x => za_go 6 l (.int x :: st) w) (by decide))
theorem f_69_6 (l : za_L) (st : List Value) (w : za_W) : za_n 69 (6, l, st, w) = za_x 69 (.iload_n 1) 6 l st w := za_n.at zcc_69 dX7_init_6 rfl
theorem f_69_7 (l : za_L) (st : List Value) (w : za_W) : za_n 69 (7, l, st, w) = za_x 69 (.invokestatic 7) 7 l st w := za_n.at zcc_69 dX7_init_7 rfl
theorem f_69_10 (l : za_L) (st : List Value) (w : za_W) : za_n 69 (10, l, st, w) = za_x 69 (.newarray .byte) 10 l st w := za_n.at zcc_69 dX7_init_10 rfl
theorem f_69_12 (l : za_L) (st : List Value) (w : za_W) : za_n 69 (12, l, st, w) = za_x 69 (.putfield 13) 12 l st w := za_n.at zcc_69 dX7_init_12 rfl
theorem f_69_15 (l : za_L) (st : List Value) (w : za_W) : za_n 69 (15, l, st, w) = za_x 69 (.return_) 15 l st w := za_n.at zcc_69 dX7_init_15 rfl
theorem f_70_0 (l : za_L) (st : List Value) (w : za_W) : za_n 70 (0, l, st, w) = za_x 70 (.iload_n 1) 0 l st w := za_n.at zcc_70 dX7_hasRoom_0 rfl
theorem f_70_1 (l : za_L) (st : List Value) (w : za_W) : za_n 70 (1, l, st, w) = za_x 70 (.aload_n 0) 1 l st w := za_n.at zcc_70 dX7_hasRoom_1 rfl
theorem f_70_2 (l : za_L) (st : List Value) (w : za_W) : za_n 70 (2, l, st, w) = za_x 70 (.getfield 13) 2 l st w := za_n.at zcc_70 dX7_hasRoom_2 rfl
theorem f_70_5 (l : za_L) (st : List Value) (w : za_W) : za_n 70 (5, l, st, w) = za_x 70 (.arraylength) 5 l st w := za_n.at zcc_70 dX7_hasRoom_5 rfl
theorem f_70_6 (l : za_L) (st : List Value) (w : za_W) : za_n 70 (6, l, st, w) = za_x 70 (.aload_n 0) 6 l st w := za_n.at zcc_70 dX7_hasRoom_6 rfl
theorem f_70_7 (l : za_L) (st : List Value) (w : za_W) : za_n 70 (7, l, st, w) = za_x 70 (.getfield 19) 7 l st w := za_n.at zcc_70 dX7_hasRoom_7 rfl
theorem f_70_10 (l : za_L) (st : List Value) (w : za_W) : za_n 70 (10, l, st, w) = za_x 70 (.isub) 10 l st w := za_n.at zcc_70 dX7_hasRoom_10 rfl
theorem f_70_11 (l : za_L) (st : List Value) (w : za_W) : za_n 70 (11, l, st, w) = za_x 70 (.if_icmp .gt 7) 11 l st w := za_n.at zcc_70 dX7_hasRoom_11 rfl
theorem f_70_14 (l : za_L) (st : List Value) (w : za_W) : za_n 70 (14, l, st, w) = za_go 15 l (.int (1) :: st) w := (za_n.at zcc_70 dX7_hasRoom_14 rfl).trans (congrArg (fun x => za_go 15 l (.int x :: st) w) (by decide))
theorem f_70_15 (l : za_L) (st : List Value) (w : za_W) : za_n 70 (15, l, st, w) = za_go 19 l st w := (za_n.at zcc_70 dX7_hasRoom_15 rfl).trans (za_jp.at (by decide))
theorem f_70_18 (l : za_L) (st : List Value) (w : za_W) : za_n 70 (18, l, st, w) = za_go 19 l (.int (0) :: st) w := (za_n.at zcc_70 dX7_hasRoom_18 rfl).trans (congrArg (fun x => za_go 19 l (.int x :: st) w) (by decide))
theorem f_70_19 (l : za_L) (st : List Value) (w : za_W) : za_n 70 (19, l, st, w) = za_x 70 (.ireturn) 19 l st w := za_n.at zcc_70 dX7_hasRoom_19 rfl
theorem f_71_0 (l : za_L) (st : List Value) (w : za_W) : za_n 71 (0, l, st, w) = za_x 71 (.iload_n 1) 0 l st w := za_n.at zcc_71 dX7_has_0 rfl
theorem f_71_1 (l : za_L) (st : List Value) (w : za_W) : za_n 71 (1, l, st, w) = za_x 71 (.ifCond .lt 15) 1 l st w := za_n.at zcc_71 dX7_has_1 rfl
theorem f_71_4 (l : za_L) (st : List Value) (w : za_W) : za_n 71 (4, l, st, w) = za_x 71 (.iload_n 1) 4 l st w := za_n.at zcc_71 dX7_has_4 rfl
theorem f_71_5 (l : za_L) (st : List Value) (w : za_W) : za_n 71 (5, l, st, w) = za_x 71 (.aload_n 0) 5 l st w := za_n.at zcc_71 dX7_has_5 rfl
theorem f_71_6 (l : za_L) (st : List Value) (w : za_W) : za_n 71 (6, l, st, w) = za_x 71 (.getfield 19) 6 l st w := za_n.at zcc_71 dX7_has_6 rfl
theorem f_71_9 (l : za_L) (st : List Value) (w : za_W) : za_n 71 (9, l, st, w) = za_x 71 (.if_icmp .ge 7) 9 l st w := za_n.at zcc_71 dX7_has_9 rfl
theorem f_71_12 (l : za_L) (st : List Value) (w : za_W) : za_n 71 (12, l, st, w) = za_go 13 l (.int (1) :: st) w := (za_n.at zcc_71 dX7_has_12 rfl).trans (congrArg (fun x => za_go 13 l (.int x :: st) w) (by decide))
theorem f_71_13 (l : za_L) (st : List Value) (w : za_W) : za_n 71 (13, l, st, w) = za_go 17 l st w := (za_n.at zcc_71 dX7_has_13 rfl).trans (za_jp.at (by decide))
theorem f_71_16 (l : za_L) (st : List Value) (w : za_W) : za_n 71 (16, l, st, w) = za_go 17 l (.int (0) :: st) w := (za_n.at zcc_71 dX7_has_16 rfl).trans (congrArg (fun x => za_go 17 l (.int x :: st) w) (by decide))
theorem f_71_17 (l : za_L) (st : List Value) (w : za_W) : za_n 71 (17, l, st, w) = za_x 71 (.ireturn) 17 l st w := za_n.at zcc_71 dX7_has_17 rfl
theorem f_72_0 (l : za_L) (st : List Value) (w : za_W) : za_n 72 (0, l, st, w) = za_x 72 (.aload_n 0) 0 l st w := za_n.at zcc_72 dX7_at_0 rfl
theorem f_72_1 (l : za_L) (st : List Value) (w : za_W) : za_n 72 (1, l, st, w) = za_x 72 (.iload_n 1) 1 l st w := za_n.at zcc_72 dX7_at_1 rfl
theorem f_72_2 (l : za_L) (st : List Value) (w : za_W) : za_n 72 (2, l, st, w) = za_x 72 (.invokevirtual 23) 2 l st w := za_n.at zcc_72 dX7_at_2 rfl
theorem f_72_5 (l : za_L) (st : List Value) (w : za_W) : za_n 72 (5, l, st, w) = za_x 72 (.ifCond .eq 16) 5 l st w := za_n.at zcc_72 dX7_at_5 rfl
theorem f_72_8 (l : za_L) (st : List Value) (w : za_W) : za_n 72 (8, l, st, w) = za_x 72 (.aload_n 0) 8 l st w := za_n.at zcc_72 dX7_at_8 rfl
theorem f_72_9 (l : za_L) (st : List Value) (w : za_W) : za_n 72 (9, l, st, w) = za_x 72 (.getfield 13) 9 l st w := za_n.at zcc_72 dX7_at_9 rfl
theorem f_72_12 (l : za_L) (st : List Value) (w : za_W) : za_n 72 (12, l, st, w) = za_x 72 (.iload_n 1) 12 l st w := za_n.at zcc_72 dX7_at_12 rfl
theorem f_72_13 (l : za_L) (st : List Value) (w : za_W) : za_n 72 (13, l, st, w) = za_x 72 (.baload) 13 l st w := za_n.at zcc_72 dX7_at_13 rfl
theorem f_72_14 (l : za_L) (st : List Value) (w : za_W) : za_n 72 (14, l, st, w) = za_go 17 l (.int (255) :: st) w := (za_n.at zcc_72 dX7_at_14 rfl).trans (congrArg (fun x => za_go 17 l (.int x :: st) w) (by decide))
theorem f_72_17 (l : za_L) (st : List Value) (w : za_W) : za_n 72 (17, l, st, w) = za_x 72 (.iand) 17 l st w := za_n.at zcc_72 dX7_at_17 rfl
theorem f_72_18 (l : za_L) (st : List Value) (w : za_W) : za_n 72 (18, l, st, w) = za_go 22 l st w := (za_n.at zcc_72 dX7_at_18 rfl).trans (za_jp.at (by decide))
theorem f_72_21 (l : za_L) (st : List Value) (w : za_W) : za_n 72 (21, l, st, w) = za_go 22 l (.int (0) :: st) w := (za_n.at zcc_72 dX7_at_21 rfl).trans (congrArg (fun x => za_go 22 l (.int x :: st) w) (by decide))
theorem f_72_22 (l : za_L) (st : List Value) (w : za_W) : za_n 72 (22, l, st, w) = za_x 72 (.ireturn) 22 l st w := za_n.at zcc_72 dX7_at_22 rfl
theorem f_73_0 (l : za_L) (st : List Value) (w : za_W) : za_n 73 (0, l, st, w) = za_x 73 (.aload_n 0) 0 l st w := za_n.at zcc_73 dX7_set_0 rfl
theorem f_73_1 (l : za_L) (st : List Value) (w : za_W) : za_n 73 (1, l, st, w) = za_x 73 (.iload_n 1) 1 l st w := za_n.at zcc_73 dX7_set_1 rfl
theorem f_73_2 (l : za_L) (st : List Value) (w : za_W) : za_n 73 (2, l, st, w) = za_x 73 (.invokevirtual 23) 2 l st w := za_n.at zcc_73 dX7_set_2 rfl
theorem f_73_5 (l : za_L) (st : List Value) (w : za_W) : za_n 73 (5, l, st, w) = za_x 73 (.ifCond .eq 11) 5 l st w := za_n.at zcc_73 dX7_set_5 rfl
theorem f_73_8 (l : za_L) (st : List Value) (w : za_W) : za_n 73 (8, l, st, w) = za_x 73 (.aload_n 0) 8 l st w := za_n.at zcc_73 dX7_set_8 rfl
theorem f_73_9 (l : za_L) (st : List Value) (w : za_W) : za_n 73 (9, l, st, w) = za_x 73 (.getfield 13) 9 l st w := za_n.at zcc_73 dX7_set_9 rfl
theorem f_73_12 (l : za_L) (st : List Value) (w : za_W) : za_n 73 (12, l, st, w) = za_x 73 (.iload_n 1) 12 l st w := za_n.at zcc_73 dX7_set_12 rfl
theorem f_73_13 (l : za_L) (st : List Value) (w : za_W) : za_n 73 (13, l, st, w) = za_x 73 (.iload_n 2) 13 l st w := za_n.at zcc_73 dX7_set_13 rfl
theorem f_73_14 (l : za_L) (st : List Value) (w : za_W) : za_n 73 (14, l, st, w) = za_x 73 (.i2b) 14 l st w := za_n.at zcc_73 dX7_set_14 rfl
theorem f_73_15 (l : za_L) (st : List Value) (w : za_W) : za_n 73 (15, l, st, w) = za_x 73 (.bastore) 15 l st w := za_n.at zcc_73 dX7_set_15 rfl
theorem f_73_16 (l : za_L) (st : List Value) (w : za_W) : za_n 73 (16, l, st, w) = za_x 73 (.return_) 16 l st w := za_n.at zcc_73 dX7_set_16 rfl
theorem f_74_0 (l : za_L) (st : List Value) (w : za_W) : za_n 74 (0, l, st, w) = za_x 74 (.aload_n 0) 0 l st w := za_n.at zcc_74 dX7_add_0 rfl
theorem f_74_1 (l : za_L) (st : List Value) (w : za_W) : za_n 74 (1, l, st, w) = za_x 74 (.getfield 19) 1 l st w := za_n.at zcc_74 dX7_add_1 rfl
theorem f_74_4 (l : za_L) (st : List Value) (w : za_W) : za_n 74 (4, l, st, w) = za_x 74 (.aload_n 0) 4 l st w := za_n.at zcc_74 dX7_add_4 rfl
theorem f_74_5 (l : za_L) (st : List Value) (w : za_W) : za_n 74 (5, l, st, w) = za_x 74 (.getfield 13) 5 l st w := za_n.at zcc_74 dX7_add_5 rfl
theorem f_74_8 (l : za_L) (st : List Value) (w : za_W) : za_n 74 (8, l, st, w) = za_x 74 (.arraylength) 8 l st w := za_n.at zcc_74 dX7_add_8 rfl
theorem f_74_9 (l : za_L) (st : List Value) (w : za_W) : za_n 74 (9, l, st, w) = za_x 74 (.if_icmp .ge 24) 9 l st w := za_n.at zcc_74 dX7_add_9 rfl
theorem f_74_12 (l : za_L) (st : List Value) (w : za_W) : za_n 74 (12, l, st, w) = za_x 74 (.aload_n 0) 12 l st w := za_n.at zcc_74 dX7_add_12 rfl
theorem f_74_13 (l : za_L) (st : List Value) (w : za_W) : za_n 74 (13, l, st, w) = za_x 74 (.getfield 13) 13 l st w := za_n.at zcc_74 dX7_add_13 rfl
theorem f_74_16 (l : za_L) (st : List Value) (w : za_W) : za_n 74 (16, l, st, w) = za_x 74 (.aload_n 0) 16 l st w := za_n.at zcc_74 dX7_add_16 rfl
theorem f_74_17 (l : za_L) (st : List Value) (w : za_W) : za_n 74 (17, l, st, w) = za_x 74 (.getfield 19) 17 l st w := za_n.at zcc_74 dX7_add_17 rfl
theorem f_74_20 (l : za_L) (st : List Value) (w : za_W) : za_n 74 (20, l, st, w) = za_x 74 (.iload_n 1) 20 l st w := za_n.at zcc_74 dX7_add_20 rfl
theorem f_74_21 (l : za_L) (st : List Value) (w : za_W) : za_n 74 (21, l, st, w) = za_x 74 (.i2b) 21 l st w := za_n.at zcc_74 dX7_add_21 rfl
theorem f_74_22 (l : za_L) (st : List Value) (w : za_W) : za_n 74 (22, l, st, w) = za_x 74 (.bastore) 22 l st w := za_n.at zcc_74 dX7_add_22 rfl
theorem f_74_23 (l : za_L) (st : List Value) (w : za_W) : za_n 74 (23, l, st, w) = za_x 74 (.aload_n 0) 23 l st w := za_n.at zcc_74 dX7_add_23 rfl
theorem f_74_24 (l : za_L) (st : List Value) (w : za_W) : za_n 74 (24, l, st, w) = za_x 74 (.dup) 24 l st w := za_n.at zcc_74 dX7_add_24 rfl
theorem f_74_25 (l : za_L) (st : List Value) (w : za_W) : za_n 74 (25, l, st, w) = za_x 74 (.getfield 19) 25 l st w := za_n.at zcc_74 dX7_add_25 rfl
theorem f_74_28 (l : za_L) (st : List Value) (w : za_W) : za_n 74 (28, l, st, w) = za_go 29 l (.int (1) :: st) w := (za_n.at zcc_74 dX7_add_28 rfl).trans (congrArg (fun x => za_go 29 l (.int x :: st) w) (by decide))
theorem f_74_29 (l : za_L) (st : List Value) (w : za_W) : za_n 74 (29, l, st, w) = za_x 74 (.iadd) 29 l st w := za_n.at zcc_74 dX7_add_29 rfl
theorem f_74_30 (l : za_L) (st : List Value) (w : za_W) : za_n 74 (30, l, st, w) = za_x 74 (.putfield 19) 30 l st w := za_n.at zcc_74 dX7_add_30 rfl
theorem f_74_33 (l : za_L) (st : List Value) (w : za_W) : za_n 74 (33, l, st, w) = za_x 74 (.return_) 33 l st w := za_n.at zcc_74 dX7_add_33 rfl
theorem f_75_0 (l : za_L) (st : List Value) (w : za_W) : za_n 75 (0, l, st, w) = za_go 2 l (.int (24) :: st) w := (za_n.at zcc_75 dX7_addNumber_0 rfl).trans (congrArg (fun x => za_go 2 l (.int x :: st) w) (by decide))
theorem f_75_2 (l : za_L) (st : List Value) (w : za_W) : za_n 75 (2, l, st, w) = za_x 75 (.istore_n 2) 2 l st w := za_n.at zcc_75 dX7_addNumber_2 rfl
theorem f_75_3 (l : za_L) (st : List Value) (w : za_W) : za_n 75 (3, l, st, w) = za_x 75 (.iload_n 2) 3 l st w := za_n.at zcc_75 dX7_addNumber_3 rfl
theorem f_75_4 (l : za_L) (st : List Value) (w : za_W) : za_n 75 (4, l, st, w) = za_x 75 (.ifCond .lt 16) 4 l st w := za_n.at zcc_75 dX7_addNumber_4 rfl
theorem f_75_7 (l : za_L) (st : List Value) (w : za_W) : za_n 75 (7, l, st, w) = za_x 75 (.aload_n 0) 7 l st w := za_n.at zcc_75 dX7_addNumber_7 rfl
theorem f_75_8 (l : za_L) (st : List Value) (w : za_W) : za_n 75 (8, l, st, w) = za_x 75 (.iload_n 1) 8 l st w := za_n.at zcc_75 dX7_addNumber_8 rfl
theorem f_75_9 (l : za_L) (st : List Value) (w : za_W) : za_n 75 (9, l, st, w) = za_x 75 (.iload_n 2) 9 l st w := za_n.at zcc_75 dX7_addNumber_9 rfl
theorem f_75_10 (l : za_L) (st : List Value) (w : za_W) : za_n 75 (10, l, st, w) = za_x 75 (.ishr) 10 l st w := za_n.at zcc_75 dX7_addNumber_10 rfl
theorem f_75_11 (l : za_L) (st : List Value) (w : za_W) : za_n 75 (11, l, st, w) = za_x 75 (.invokevirtual 27) 11 l st w := za_n.at zcc_75 dX7_addNumber_11 rfl
theorem f_75_14 (l : za_L) (st : List Value) (w : za_W) : za_n 75 (14, l, st, w) = za_x 75 (.iinc 2 (-8)) 14 l st w := za_n.at zcc_75 dX7_addNumber_14 rfl
theorem f_75_17 (l : za_L) (st : List Value) (w : za_W) : za_n 75 (17, l, st, w) = za_go 3 l st w := (za_n.at zcc_75 dX7_addNumber_17 rfl).trans (za_jp.at (by decide))
theorem f_75_20 (l : za_L) (st : List Value) (w : za_W) : za_n 75 (20, l, st, w) = za_x 75 (.return_) 20 l st w := za_n.at zcc_75 dX7_addNumber_20 rfl
theorem f_76_0 (l : za_L) (st : List Value) (w : za_W) : za_n 76 (0, l, st, w) = za_x 76 (.aload_n 1) 0 l st w := za_n.at zcc_76 dX7_addAll_0 rfl
theorem f_76_1 (l : za_L) (st : List Value) (w : za_W) : za_n 76 (1, l, st, w) = za_x 76 (.getfield 19) 1 l st w := za_n.at zcc_76 dX7_addAll_1 rfl
theorem f_76_4 (l : za_L) (st : List Value) (w : za_W) : za_n 76 (4, l, st, w) = za_x 76 (.aload_n 0) 4 l st w := za_n.at zcc_76 dX7_addAll_4 rfl
theorem f_76_5 (l : za_L) (st : List Value) (w : za_W) : za_n 76 (5, l, st, w) = za_x 76 (.getfield 13) 5 l st w := za_n.at zcc_76 dX7_addAll_5 rfl
theorem f_76_8 (l : za_L) (st : List Value) (w : za_W) : za_n 76 (8, l, st, w) = za_x 76 (.arraylength) 8 l st w := za_n.at zcc_76 dX7_addAll_8 rfl
theorem f_76_9 (l : za_L) (st : List Value) (w : za_W) : za_n 76 (9, l, st, w) = za_x 76 (.aload_n 0) 9 l st w := za_n.at zcc_76 dX7_addAll_9 rfl
theorem f_76_10 (l : za_L) (st : List Value) (w : za_W) : za_n 76 (10, l, st, w) = za_x 76 (.getfield 19) 10 l st w := za_n.at zcc_76 dX7_addAll_10 rfl
theorem f_76_13 (l : za_L) (st : List Value) (w : za_W) : za_n 76 (13, l, st, w) = za_x 76 (.isub) 13 l st w := za_n.at zcc_76 dX7_addAll_13 rfl
theorem f_76_14 (l : za_L) (st : List Value) (w : za_W) : za_n 76 (14, l, st, w) = za_x 76 (.invokestatic 31) 14 l st w := za_n.at zcc_76 dX7_addAll_14 rfl
theorem f_76_17 (l : za_L) (st : List Value) (w : za_W) : za_n 76 (17, l, st, w) = za_x 76 (.istore_n 2) 17 l st w := za_n.at zcc_76 dX7_addAll_17 rfl
theorem f_76_18 (l : za_L) (st : List Value) (w : za_W) : za_n 76 (18, l, st, w) = za_x 76 (.aload_n 1) 18 l st w := za_n.at zcc_76 dX7_addAll_18 rfl
theorem f_76_19 (l : za_L) (st : List Value) (w : za_W) : za_n 76 (19, l, st, w) = za_x 76 (.getfield 13) 19 l st w := za_n.at zcc_76 dX7_addAll_19 rfl
theorem f_76_22 (l : za_L) (st : List Value) (w : za_W) : za_n 76 (22, l, st, w) = za_go 23 l (.int (0) :: st) w := (za_n.at zcc_76 dX7_addAll_22 rfl).trans (congrArg (fun x => za_go 23 l (.int x :: st) w) (by decide))
theorem f_76_23 (l : za_L) (st : List Value) (w : za_W) : za_n 76 (23, l, st, w) = za_x 76 (.aload_n 0) 23 l st w := za_n.at zcc_76 dX7_addAll_23 rfl
theorem f_76_24 (l : za_L) (st : List Value) (w : za_W) : za_n 76 (24, l, st, w) = za_x 76 (.getfield 13) 24 l st w := za_n.at zcc_76 dX7_addAll_24 rfl
theorem f_76_27 (l : za_L) (st : List Value) (w : za_W) : za_n 76 (27, l, st, w) = za_x 76 (.aload_n 0) 27 l st w := za_n.at zcc_76 dX7_addAll_27 rfl
theorem f_76_28 (l : za_L) (st : List Value) (w : za_W) : za_n 76 (28, l, st, w) = za_x 76 (.getfield 19) 28 l st w := za_n.at zcc_76 dX7_addAll_28 rfl
theorem f_76_31 (l : za_L) (st : List Value) (w : za_W) : za_n 76 (31, l, st, w) = za_x 76 (.iload_n 2) 31 l st w := za_n.at zcc_76 dX7_addAll_31 rfl
theorem f_76_32 (l : za_L) (st : List Value) (w : za_W) : za_n 76 (32, l, st, w) = za_x 76 (.invokestatic 34) 32 l st w := za_n.at zcc_76 dX7_addAll_32 rfl
theorem f_76_35 (l : za_L) (st : List Value) (w : za_W) : za_n 76 (35, l, st, w) = za_x 76 (.aload_n 0) 35 l st w := za_n.at zcc_76 dX7_addAll_35 rfl
theorem f_76_36 (l : za_L) (st : List Value) (w : za_W) : za_n 76 (36, l, st, w) = za_x 76 (.dup) 36 l st w := za_n.at zcc_76 dX7_addAll_36 rfl
theorem f_76_37 (l : za_L) (st : List Value) (w : za_W) : za_n 76 (37, l, st, w) = za_x 76 (.getfield 19) 37 l st w := za_n.at zcc_76 dX7_addAll_37 rfl
theorem f_76_40 (l : za_L) (st : List Value) (w : za_W) : za_n 76 (40, l, st, w) = za_x 76 (.iload_n 2) 40 l st w := za_n.at zcc_76 dX7_addAll_40 rfl
theorem f_76_41 (l : za_L) (st : List Value) (w : za_W) : za_n 76 (41, l, st, w) = za_x 76 (.iadd) 41 l st w := za_n.at zcc_76 dX7_addAll_41 rfl
theorem f_76_42 (l : za_L) (st : List Value) (w : za_W) : za_n 76 (42, l, st, w) = za_x 76 (.putfield 19) 42 l st w := za_n.at zcc_76 dX7_addAll_42 rfl
theorem f_76_45 (l : za_L) (st : List Value) (w : za_W) : za_n 76 (45, l, st, w) = za_x 76 (.return_) 45 l st w := za_n.at zcc_76 dX7_addAll_45 rfl
theorem f_77_0 (l : za_L) (st : List Value) (w : za_W) : za_n 77 (0, l, st, w) = za_x 77 (.aload_n 0) 0 l st w := za_n.at zcc_77 dX7_cutTo_0 rfl
theorem f_77_1 (l : za_L) (st : List Value) (w : za_W) : za_n 77 (1, l, st, w) = za_go 2 l (.int (0) :: st) w := (za_n.at zcc_77 dX7_cutTo_1 rfl).trans (congrArg (fun x => za_go 2 l (.int x :: st) w) (by decide))
theorem f_77_2 (l : za_L) (st : List Value) (w : za_W) : za_n 77 (2, l, st, w) = za_x 77 (.aload_n 0) 2 l st w := za_n.at zcc_77 dX7_cutTo_2 rfl
theorem f_77_3 (l : za_L) (st : List Value) (w : za_W) : za_n 77 (3, l, st, w) = za_x 77 (.getfield 19) 3 l st w := za_n.at zcc_77 dX7_cutTo_3 rfl
theorem f_77_6 (l : za_L) (st : List Value) (w : za_W) : za_n 77 (6, l, st, w) = za_x 77 (.iload_n 1) 6 l st w := za_n.at zcc_77 dX7_cutTo_6 rfl
theorem f_77_7 (l : za_L) (st : List Value) (w : za_W) : za_n 77 (7, l, st, w) = za_x 77 (.invokestatic 31) 7 l st w := za_n.at zcc_77 dX7_cutTo_7 rfl
theorem f_77_10 (l : za_L) (st : List Value) (w : za_W) : za_n 77 (10, l, st, w) = za_x 77 (.invokestatic 7) 10 l st w := za_n.at zcc_77 dX7_cutTo_10 rfl
theorem f_77_13 (l : za_L) (st : List Value) (w : za_W) : za_n 77 (13, l, st, w) = za_x 77 (.putfield 19) 13 l st w := za_n.at zcc_77 dX7_cutTo_13 rfl
theorem f_77_16 (l : za_L) (st : List Value) (w : za_W) : za_n 77 (16, l, st, w) = za_x 77 (.return_) 16 l st w := za_n.at zcc_77 dX7_cutTo_16 rfl
theorem f_78_0 (l : za_L) (st : List Value) (w : za_W) : za_n 78 (0, l, st, w) = za_go 1 l (.int (0) :: st) w := (za_n.at zcc_78 dX7_dropFirst_0 rfl).trans (congrArg (fun x => za_go 1 l (.int x :: st) w) (by decide))
theorem f_78_1 (l : za_L) (st : List Value) (w : za_W) : za_n 78 (1, l, st, w) = za_x 78 (.aload_n 0) 1 l st w := za_n.at zcc_78 dX7_dropFirst_1 rfl
theorem f_78_2 (l : za_L) (st : List Value) (w : za_W) : za_n 78 (2, l, st, w) = za_x 78 (.getfield 19) 2 l st w := za_n.at zcc_78 dX7_dropFirst_2 rfl
theorem f_78_5 (l : za_L) (st : List Value) (w : za_W) : za_n 78 (5, l, st, w) = za_x 78 (.iload_n 1) 5 l st w := za_n.at zcc_78 dX7_dropFirst_5 rfl
theorem f_78_6 (l : za_L) (st : List Value) (w : za_W) : za_n 78 (6, l, st, w) = za_x 78 (.invokestatic 31) 6 l st w := za_n.at zcc_78 dX7_dropFirst_6 rfl
theorem f_78_9 (l : za_L) (st : List Value) (w : za_W) : za_n 78 (9, l, st, w) = za_x 78 (.invokestatic 7) 9 l st w := za_n.at zcc_78 dX7_dropFirst_9 rfl
theorem f_78_12 (l : za_L) (st : List Value) (w : za_W) : za_n 78 (12, l, st, w) = za_x 78 (.istore_n 2) 12 l st w := za_n.at zcc_78 dX7_dropFirst_12 rfl
theorem f_78_13 (l : za_L) (st : List Value) (w : za_W) : za_n 78 (13, l, st, w) = za_x 78 (.aload_n 0) 13 l st w := za_n.at zcc_78 dX7_dropFirst_13 rfl
theorem f_78_14 (l : za_L) (st : List Value) (w : za_W) : za_n 78 (14, l, st, w) = za_x 78 (.getfield 13) 14 l st w := za_n.at zcc_78 dX7_dropFirst_14 rfl
theorem f_78_17 (l : za_L) (st : List Value) (w : za_W) : za_n 78 (17, l, st, w) = za_x 78 (.iload_n 2) 17 l st w := za_n.at zcc_78 dX7_dropFirst_17 rfl
theorem f_78_18 (l : za_L) (st : List Value) (w : za_W) : za_n 78 (18, l, st, w) = za_x 78 (.aload_n 0) 18 l st w := za_n.at zcc_78 dX7_dropFirst_18 rfl
theorem f_78_19 (l : za_L) (st : List Value) (w : za_W) : za_n 78 (19, l, st, w) = za_x 78 (.getfield 13) 19 l st w := za_n.at zcc_78 dX7_dropFirst_19 rfl
theorem f_78_22 (l : za_L) (st : List Value) (w : za_W) : za_n 78 (22, l, st, w) = za_go 23 l (.int (0) :: st) w := (za_n.at zcc_78 dX7_dropFirst_22 rfl).trans (congrArg (fun x => za_go 23 l (.int x :: st) w) (by decide))
theorem f_78_23 (l : za_L) (st : List Value) (w : za_W) : za_n 78 (23, l, st, w) = za_x 78 (.aload_n 0) 23 l st w := za_n.at zcc_78 dX7_dropFirst_23 rfl
theorem f_78_24 (l : za_L) (st : List Value) (w : za_W) : za_n 78 (24, l, st, w) = za_x 78 (.getfield 19) 24 l st w := za_n.at zcc_78 dX7_dropFirst_24 rfl
theorem f_78_27 (l : za_L) (st : List Value) (w : za_W) : za_n 78 (27, l, st, w) = za_x 78 (.iload_n 2) 27 l st w := za_n.at zcc_78 dX7_dropFirst_27 rfl
theorem f_78_28 (l : za_L) (st : List Value) (w : za_W) : za_n 78 (28, l, st, w) = za_x 78 (.isub) 28 l st w := za_n.at zcc_78 dX7_dropFirst_28 rfl
theorem f_78_29 (l : za_L) (st : List Value) (w : za_W) : za_n 78 (29, l, st, w) = za_x 78 (.invokestatic 34) 29 l st w := za_n.at zcc_78 dX7_dropFirst_29 rfl
theorem f_78_32 (l : za_L) (st : List Value) (w : za_W) : za_n 78 (32, l, st, w) = za_x 78 (.aload_n 0) 32 l st w := za_n.at zcc_78 dX7_dropFirst_32 rfl
theorem f_78_33 (l : za_L) (st : List Value) (w : za_W) : za_n 78 (33, l, st, w) = za_x 78 (.dup) 33 l st w := za_n.at zcc_78 dX7_dropFirst_33 rfl
theorem f_78_34 (l : za_L) (st : List Value) (w : za_W) : za_n 78 (34, l, st, w) = za_x 78 (.getfield 19) 34 l st w := za_n.at zcc_78 dX7_dropFirst_34 rfl
theorem f_78_37 (l : za_L) (st : List Value) (w : za_W) : za_n 78 (37, l, st, w) = za_x 78 (.iload_n 2) 37 l st w := za_n.at zcc_78 dX7_dropFirst_37 rfl
theorem f_78_38 (l : za_L) (st : List Value) (w : za_W) : za_n 78 (38, l, st, w) = za_x 78 (.isub) 38 l st w := za_n.at zcc_78 dX7_dropFirst_38 rfl
theorem f_78_39 (l : za_L) (st : List Value) (w : za_W) : za_n 78 (39, l, st, w) = za_x 78 (.putfield 19) 39 l st w := za_n.at zcc_78 dX7_dropFirst_39 rfl
theorem f_78_42 (l : za_L) (st : List Value) (w : za_W) : za_n 78 (42, l, st, w) = za_x 78 (.return_) 42 l st w := za_n.at zcc_78 dX7_dropFirst_42 rfl
theorem f_79_0 (l : za_L) (st : List Value) (w : za_W) : za_n 79 (0, l, st, w) = za_x 79 (.aload_n 0) 0 l st w := za_n.at zcc_79 dX8_init_0 rfl
theorem f_79_1 (l : za_L) (st : List Value) (w : za_W) : za_n 79 (1, l, st, w) = za_x 79 (.invokespecial 3) 1 l st w := za_n.at zcc_79 dX8_init_1 rfl
theorem f_79_4 (l : za_L) (st : List Value) (w : za_W) : za_n 79 (4, l, st, w) = za_x 79 (.aload_n 0) 4 l st w := za_n.at zcc_79 dX8_init_4 rfl
theorem f_79_5 (l : za_L) (st : List Value) (w : za_W) : za_n 79 (5, l, st, w) = za_go 7 l (.int (6) :: st) w := (za_n.at zcc_79 dX8_init_5 rfl).trans (congrArg (fun x => za_go 7 l (.int x :: st) w) (by decide))
theorem f_79_7 (l : za_L) (st : List Value) (w : za_W) : za_n 79 (7, l, st, w) = za_go 10 l (.int (258) :: st) w := (za_n.at zcc_79 dX8_init_7 rfl).trans (congrArg (fun x => za_go 10 l (.int x :: st) w) (by decide))
theorem f_79_10 (l : za_L) (st : List Value) (w : za_W) : za_n 79 (10, l, st, w) = za_x 79 (.multianewarray 9 2) 10 l st w := za_n.at zcc_79 dX8_init_10 rfl
theorem f_79_14 (l : za_L) (st : List Value) (w : za_W) : za_n 79 (14, l, st, w) = za_x 79 (.putfield 11) 14 l st w := za_n.at zcc_79 dX8_init_14 rfl
theorem f_79_17 (l : za_L) (st : List Value) (w : za_W) : za_n 79 (17, l, st, w) = za_x 79 (.aload_n 0) 17 l st w := za_n.at zcc_79 dX8_init_17 rfl
theorem f_79_18 (l : za_L) (st : List Value) (w : za_W) : za_n 79 (18, l, st, w) = za_go 21 l (.int (258) :: st) w := (za_n.at zcc_79 dX8_init_18 rfl).trans (congrArg (fun x => za_go 21 l (.int x :: st) w) (by decide))
theorem f_79_21 (l : za_L) (st : List Value) (w : za_W) : za_n 79 (21, l, st, w) = za_x 79 (.newarray .int) 21 l st w := za_n.at zcc_79 dX8_init_21 rfl
theorem f_79_23 (l : za_L) (st : List Value) (w : za_W) : za_n 79 (23, l, st, w) = za_x 79 (.putfield 16) 23 l st w := za_n.at zcc_79 dX8_init_23 rfl
theorem f_79_26 (l : za_L) (st : List Value) (w : za_W) : za_n 79 (26, l, st, w) = za_x 79 (.aload_n 0) 26 l st w := za_n.at zcc_79 dX8_init_26 rfl
theorem f_79_27 (l : za_L) (st : List Value) (w : za_W) : za_n 79 (27, l, st, w) = za_go 30 l (.int (258) :: st) w := (za_n.at zcc_79 dX8_init_27 rfl).trans (congrArg (fun x => za_go 30 l (.int x :: st) w) (by decide))
theorem f_79_30 (l : za_L) (st : List Value) (w : za_W) : za_n 79 (30, l, st, w) = za_x 79 (.newarray .int) 30 l st w := za_n.at zcc_79 dX8_init_30 rfl
theorem f_79_32 (l : za_L) (st : List Value) (w : za_W) : za_n 79 (32, l, st, w) = za_x 79 (.putfield 20) 32 l st w := za_n.at zcc_79 dX8_init_32 rfl
theorem f_79_35 (l : za_L) (st : List Value) (w : za_W) : za_n 79 (35, l, st, w) = za_x 79 (.aload_n 0) 35 l st w := za_n.at zcc_79 dX8_init_35 rfl
theorem f_79_36 (l : za_L) (st : List Value) (w : za_W) : za_n 79 (36, l, st, w) = za_go 39 l (.int (516) :: st) w := (za_n.at zcc_79 dX8_init_36 rfl).trans (congrArg (fun x => za_go 39 l (.int x :: st) w) (by decide))
theorem f_79_39 (l : za_L) (st : List Value) (w : za_W) : za_n 79 (39, l, st, w) = za_x 79 (.newarray .int) 39 l st w := za_n.at zcc_79 dX8_init_39 rfl
theorem f_79_41 (l : za_L) (st : List Value) (w : za_W) : za_n 79 (41, l, st, w) = za_x 79 (.putfield 23) 41 l st w := za_n.at zcc_79 dX8_init_41 rfl
theorem f_79_44 (l : za_L) (st : List Value) (w : za_W) : za_n 79 (44, l, st, w) = za_x 79 (.aload_n 0) 44 l st w := za_n.at zcc_79 dX8_init_44 rfl
theorem f_79_45 (l : za_L) (st : List Value) (w : za_W) : za_n 79 (45, l, st, w) = za_go 48 l (.int (516) :: st) w := (za_n.at zcc_79 dX8_init_45 rfl).trans (congrArg (fun x => za_go 48 l (.int x :: st) w) (by decide))
theorem f_79_48 (l : za_L) (st : List Value) (w : za_W) : za_n 79 (48, l, st, w) = za_x 79 (.newarray .int) 48 l st w := za_n.at zcc_79 dX8_init_48 rfl
theorem f_79_50 (l : za_L) (st : List Value) (w : za_W) : za_n 79 (50, l, st, w) = za_x 79 (.putfield 26) 50 l st w := za_n.at zcc_79 dX8_init_50 rfl
theorem f_79_53 (l : za_L) (st : List Value) (w : za_W) : za_n 79 (53, l, st, w) = za_x 79 (.aload_n 0) 53 l st w := za_n.at zcc_79 dX8_init_53 rfl
theorem f_79_54 (l : za_L) (st : List Value) (w : za_W) : za_n 79 (54, l, st, w) = za_go 57 l (.int (516) :: st) w := (za_n.at zcc_79 dX8_init_54 rfl).trans (congrArg (fun x => za_go 57 l (.int x :: st) w) (by decide))
theorem f_79_57 (l : za_L) (st : List Value) (w : za_W) : za_n 79 (57, l, st, w) = za_x 79 (.newarray .int) 57 l st w := za_n.at zcc_79 dX8_init_57 rfl
theorem f_79_59 (l : za_L) (st : List Value) (w : za_W) : za_n 79 (59, l, st, w) = za_x 79 (.putfield 29) 59 l st w := za_n.at zcc_79 dX8_init_59 rfl
theorem f_79_62 (l : za_L) (st : List Value) (w : za_W) : za_n 79 (62, l, st, w) = za_x 79 (.return_) 62 l st w := za_n.at zcc_79 dX8_init_62 rfl
theorem f_80_0 (l : za_L) (st : List Value) (w : za_W) : za_n 80 (0, l, st, w) = za_x 80 (.aload_n 3) 0 l st w := za_n.at zcc_80 dX8_makeTables_0 rfl
theorem f_80_1 (l : za_L) (st : List Value) (w : za_W) : za_n 80 (1, l, st, w) = za_x 80 (.iload_n 2) 1 l st w := za_n.at zcc_80 dX8_makeTables_1 rfl
theorem f_80_2 (l : za_L) (st : List Value) (w : za_W) : za_n 80 (2, l, st, w) = za_x 80 (.invokestatic 32) 2 l st w := za_n.at zcc_80 dX8_makeTables_2 rfl
theorem f_80_5 (l : za_L) (st : List Value) (w : za_W) : za_n 80 (5, l, st, w) = za_x 80 (.putfield 36) 5 l st w := za_n.at zcc_80 dX8_makeTables_5 rfl
theorem f_80_8 (l : za_L) (st : List Value) (w : za_W) : za_n 80 (8, l, st, w) = za_x 80 (.aload_n 3) 8 l st w := za_n.at zcc_80 dX8_makeTables_8 rfl
theorem f_80_9 (l : za_L) (st : List Value) (w : za_W) : za_n 80 (9, l, st, w) = za_x 80 (.iload_n 2) 9 l st w := za_n.at zcc_80 dX8_makeTables_9 rfl
theorem f_80_10 (l : za_L) (st : List Value) (w : za_W) : za_n 80 (10, l, st, w) = za_go 12 l (.int (50) :: st) w := (za_n.at zcc_80 dX8_makeTables_10 rfl).trans (congrArg (fun x => za_go 12 l (.int x :: st) w) (by decide))
theorem f_80_12 (l : za_L) (st : List Value) (w : za_W) : za_n 80 (12, l, st, w) = za_x 80 (.iadd) 12 l st w := za_n.at zcc_80 dX8_makeTables_12 rfl
theorem f_80_13 (l : za_L) (st : List Value) (w : za_W) : za_n 80 (13, l, st, w) = za_go 14 l (.int (1) :: st) w := (za_n.at zcc_80 dX8_makeTables_13 rfl).trans (congrArg (fun x => za_go 14 l (.int x :: st) w) (by decide))
theorem f_80_14 (l : za_L) (st : List Value) (w : za_W) : za_n 80 (14, l, st, w) = za_x 80 (.isub) 14 l st w := za_n.at zcc_80 dX8_makeTables_14 rfl
theorem f_80_15 (l : za_L) (st : List Value) (w : za_W) : za_n 80 (15, l, st, w) = za_go 17 l (.int (50) :: st) w := (za_n.at zcc_80 dX8_makeTables_15 rfl).trans (congrArg (fun x => za_go 17 l (.int x :: st) w) (by decide))
theorem f_80_17 (l : za_L) (st : List Value) (w : za_W) : za_n 80 (17, l, st, w) = za_x 80 (.idiv) 17 l st w := za_n.at zcc_80 dX8_makeTables_17 rfl
theorem f_80_18 (l : za_L) (st : List Value) (w : za_W) : za_n 80 (18, l, st, w) = za_x 80 (.putfield 42) 18 l st w := za_n.at zcc_80 dX8_makeTables_18 rfl
theorem f_80_21 (l : za_L) (st : List Value) (w : za_W) : za_n 80 (21, l, st, w) = za_x 80 (.aload_n 0) 21 l st w := za_n.at zcc_80 dX8_makeTables_21 rfl
theorem f_80_22 (l : za_L) (st : List Value) (w : za_W) : za_n 80 (22, l, st, w) = za_x 80 (.aload_n 1) 22 l st w := za_n.at zcc_80 dX8_makeTables_22 rfl
theorem f_80_23 (l : za_L) (st : List Value) (w : za_W) : za_n 80 (23, l, st, w) = za_x 80 (.iload_n 2) 23 l st w := za_n.at zcc_80 dX8_makeTables_23 rfl
theorem f_80_24 (l : za_L) (st : List Value) (w : za_W) : za_n 80 (24, l, st, w) = za_x 80 (.aload_n 3) 24 l st w := za_n.at zcc_80 dX8_makeTables_24 rfl
theorem f_80_25 (l : za_L) (st : List Value) (w : za_W) : za_n 80 (25, l, st, w) = za_x 80 (.invokevirtual 45) 25 l st w := za_n.at zcc_80 dX8_makeTables_25 rfl
theorem f_80_28 (l : za_L) (st : List Value) (w : za_W) : za_n 80 (28, l, st, w) = za_go 29 l (.int (0) :: st) w := (za_n.at zcc_80 dX8_makeTables_28 rfl).trans (congrArg (fun x => za_go 29 l (.int x :: st) w) (by decide))
theorem f_80_29 (l : za_L) (st : List Value) (w : za_W) : za_n 80 (29, l, st, w) = za_x 80 (.istore 4) 29 l st w := za_n.at zcc_80 dX8_makeTables_29 rfl
theorem f_80_31 (l : za_L) (st : List Value) (w : za_W) : za_n 80 (31, l, st, w) = za_x 80 (.iload 4) 31 l st w := za_n.at zcc_80 dX8_makeTables_31 rfl
theorem f_80_33 (l : za_L) (st : List Value) (w : za_W) : za_n 80 (33, l, st, w) = za_go 34 l (.int (4) :: st) w := (za_n.at zcc_80 dX8_makeTables_33 rfl).trans (congrArg (fun x => za_go 34 l (.int x :: st) w) (by decide))
theorem f_80_34 (l : za_L) (st : List Value) (w : za_W) : za_n 80 (34, l, st, w) = za_x 80 (.if_icmp .ge 56) 34 l st w := za_n.at zcc_80 dX8_makeTables_34 rfl
theorem f_80_37 (l : za_L) (st : List Value) (w : za_W) : za_n 80 (37, l, st, w) = za_x 80 (.aload_n 0) 37 l st w := za_n.at zcc_80 dX8_makeTables_37 rfl
theorem f_80_38 (l : za_L) (st : List Value) (w : za_W) : za_n 80 (38, l, st, w) = za_x 80 (.aload_n 1) 38 l st w := za_n.at zcc_80 dX8_makeTables_38 rfl
theorem f_80_39 (l : za_L) (st : List Value) (w : za_W) : za_n 80 (39, l, st, w) = za_x 80 (.iload_n 2) 39 l st w := za_n.at zcc_80 dX8_makeTables_39 rfl
theorem f_80_40 (l : za_L) (st : List Value) (w : za_W) : za_n 80 (40, l, st, w) = za_x 80 (.aload_n 3) 40 l st w := za_n.at zcc_80 dX8_makeTables_40 rfl
theorem f_80_41 (l : za_L) (st : List Value) (w : za_W) : za_n 80 (41, l, st, w) = za_x 80 (.invokevirtual 49) 41 l st w := za_n.at zcc_80 dX8_makeTables_41 rfl
theorem f_80_44 (l : za_L) (st : List Value) (w : za_W) : za_n 80 (44, l, st, w) = za_go 45 l (.int (0) :: st) w := (za_n.at zcc_80 dX8_makeTables_44 rfl).trans (congrArg (fun x => za_go 45 l (.int x :: st) w) (by decide))
theorem f_80_45 (l : za_L) (st : List Value) (w : za_W) : za_n 80 (45, l, st, w) = za_x 80 (.istore 5) 45 l st w := za_n.at zcc_80 dX8_makeTables_45 rfl
theorem f_80_47 (l : za_L) (st : List Value) (w : za_W) : za_n 80 (47, l, st, w) = za_x 80 (.iload 5) 47 l st w := za_n.at zcc_80 dX8_makeTables_47 rfl
theorem f_80_49 (l : za_L) (st : List Value) (w : za_W) : za_n 80 (49, l, st, w) = za_x 80 (.aload_n 3) 49 l st w := za_n.at zcc_80 dX8_makeTables_49 rfl
theorem f_80_50 (l : za_L) (st : List Value) (w : za_W) : za_n 80 (50, l, st, w) = za_x 80 (.getfield 36) 50 l st w := za_n.at zcc_80 dX8_makeTables_50 rfl
theorem f_80_53 (l : za_L) (st : List Value) (w : za_W) : za_n 80 (53, l, st, w) = za_x 80 (.if_icmp .ge 31) 53 l st w := za_n.at zcc_80 dX8_makeTables_53 rfl
theorem f_80_56 (l : za_L) (st : List Value) (w : za_W) : za_n 80 (56, l, st, w) = za_x 80 (.aload_n 0) 56 l st w := za_n.at zcc_80 dX8_makeTables_56 rfl
theorem f_80_57 (l : za_L) (st : List Value) (w : za_W) : za_n 80 (57, l, st, w) = za_x 80 (.aload_n 0) 57 l st w := za_n.at zcc_80 dX8_makeTables_57 rfl
theorem f_80_58 (l : za_L) (st : List Value) (w : za_W) : za_n 80 (58, l, st, w) = za_x 80 (.getfield 11) 58 l st w := za_n.at zcc_80 dX8_makeTables_58 rfl
theorem f_80_61 (l : za_L) (st : List Value) (w : za_W) : za_n 80 (61, l, st, w) = za_x 80 (.iload 5) 61 l st w := za_n.at zcc_80 dX8_makeTables_61 rfl
theorem f_80_63 (l : za_L) (st : List Value) (w : za_W) : za_n 80 (63, l, st, w) = za_x 80 (.aaload) 63 l st w := za_n.at zcc_80 dX8_makeTables_63 rfl
theorem f_80_64 (l : za_L) (st : List Value) (w : za_W) : za_n 80 (64, l, st, w) = za_x 80 (.aload_n 3) 64 l st w := za_n.at zcc_80 dX8_makeTables_64 rfl
theorem f_80_65 (l : za_L) (st : List Value) (w : za_W) : za_n 80 (65, l, st, w) = za_x 80 (.getfield 52) 65 l st w := za_n.at zcc_80 dX8_makeTables_65 rfl
theorem f_80_68 (l : za_L) (st : List Value) (w : za_W) : za_n 80 (68, l, st, w) = za_x 80 (.aload_n 3) 68 l st w := za_n.at zcc_80 dX8_makeTables_68 rfl
theorem f_80_69 (l : za_L) (st : List Value) (w : za_W) : za_n 80 (69, l, st, w) = za_x 80 (.getfield 55) 69 l st w := za_n.at zcc_80 dX8_makeTables_69 rfl
theorem f_80_72 (l : za_L) (st : List Value) (w : za_W) : za_n 80 (72, l, st, w) = za_x 80 (.iload 5) 72 l st w := za_n.at zcc_80 dX8_makeTables_72 rfl
theorem f_80_74 (l : za_L) (st : List Value) (w : za_W) : za_n 80 (74, l, st, w) = za_x 80 (.aaload) 74 l st w := za_n.at zcc_80 dX8_makeTables_74 rfl
theorem f_80_75 (l : za_L) (st : List Value) (w : za_W) : za_n 80 (75, l, st, w) = za_x 80 (.invokevirtual 58) 75 l st w := za_n.at zcc_80 dX8_makeTables_75 rfl
theorem f_80_78 (l : za_L) (st : List Value) (w : za_W) : za_n 80 (78, l, st, w) = za_x 80 (.iinc 5 1) 78 l st w := za_n.at zcc_80 dX8_makeTables_78 rfl
theorem f_80_81 (l : za_L) (st : List Value) (w : za_W) : za_n 80 (81, l, st, w) = za_go 47 l st w := (za_n.at zcc_80 dX8_makeTables_81 rfl).trans (za_jp.at (by decide))
theorem f_80_84 (l : za_L) (st : List Value) (w : za_W) : za_n 80 (84, l, st, w) = za_x 80 (.iinc 4 1) 84 l st w := za_n.at zcc_80 dX8_makeTables_84 rfl
theorem f_80_87 (l : za_L) (st : List Value) (w : za_W) : za_n 80 (87, l, st, w) = za_go 31 l st w := (za_n.at zcc_80 dX8_makeTables_87 rfl).trans (za_jp.at (by decide))
theorem f_80_90 (l : za_L) (st : List Value) (w : za_W) : za_n 80 (90, l, st, w) = za_x 80 (.return_) 90 l st w := za_n.at zcc_80 dX8_makeTables_90 rfl
theorem f_81_0 (l : za_L) (st : List Value) (w : za_W) : za_n 81 (0, l, st, w) = za_x 81 (.iload_n 0) 0 l st w := za_n.at zcc_81 dX8_tablesFor_0 rfl
theorem f_81_1 (l : za_L) (st : List Value) (w : za_W) : za_n 81 (1, l, st, w) = za_go 4 l (.int (200) :: st) w := (za_n.at zcc_81 dX8_tablesFor_1 rfl).trans (congrArg (fun x => za_go 4 l (.int x :: st) w) (by decide))
theorem f_81_4 (l : za_L) (st : List Value) (w : za_W) : za_n 81 (4, l, st, w) = za_x 81 (.if_icmp .ge 5) 4 l st w := za_n.at zcc_81 dX8_tablesFor_4 rfl
theorem f_81_7 (l : za_L) (st : List Value) (w : za_W) : za_n 81 (7, l, st, w) = za_go 8 l (.int (2) :: st) w := (za_n.at zcc_81 dX8_tablesFor_7 rfl).trans (congrArg (fun x => za_go 8 l (.int x :: st) w) (by decide))
theorem f_81_8 (l : za_L) (st : List Value) (w : za_W) : za_n 81 (8, l, st, w) = za_x 81 (.ireturn) 8 l st w := za_n.at zcc_81 dX8_tablesFor_8 rfl
theorem f_81_9 (l : za_L) (st : List Value) (w : za_W) : za_n 81 (9, l, st, w) = za_x 81 (.iload_n 0) 9 l st w := za_n.at zcc_81 dX8_tablesFor_9 rfl
theorem f_81_10 (l : za_L) (st : List Value) (w : za_W) : za_n 81 (10, l, st, w) = za_go 13 l (.int (600) :: st) w := (za_n.at zcc_81 dX8_tablesFor_10 rfl).trans (congrArg (fun x => za_go 13 l (.int x :: st) w) (by decide))
theorem f_81_13 (l : za_L) (st : List Value) (w : za_W) : za_n 81 (13, l, st, w) = za_x 81 (.if_icmp .ge 5) 13 l st w := za_n.at zcc_81 dX8_tablesFor_13 rfl
theorem f_81_16 (l : za_L) (st : List Value) (w : za_W) : za_n 81 (16, l, st, w) = za_go 17 l (.int (3) :: st) w := (za_n.at zcc_81 dX8_tablesFor_16 rfl).trans (congrArg (fun x => za_go 17 l (.int x :: st) w) (by decide))
theorem f_81_17 (l : za_L) (st : List Value) (w : za_W) : za_n 81 (17, l, st, w) = za_x 81 (.ireturn) 17 l st w := za_n.at zcc_81 dX8_tablesFor_17 rfl
theorem f_81_18 (l : za_L) (st : List Value) (w : za_W) : za_n 81 (18, l, st, w) = za_x 81 (.iload_n 0) 18 l st w := za_n.at zcc_81 dX8_tablesFor_18 rfl
theorem f_81_19 (l : za_L) (st : List Value) (w : za_W) : za_n 81 (19, l, st, w) = za_go 22 l (.int (1200) :: st) w := (za_n.at zcc_81 dX8_tablesFor_19 rfl).trans (congrArg (fun x => za_go 22 l (.int x :: st) w) (by decide))
theorem f_81_22 (l : za_L) (st : List Value) (w : za_W) : za_n 81 (22, l, st, w) = za_x 81 (.if_icmp .ge 7) 22 l st w := za_n.at zcc_81 dX8_tablesFor_22 rfl
theorem f_81_25 (l : za_L) (st : List Value) (w : za_W) : za_n 81 (25, l, st, w) = za_go 26 l (.int (4) :: st) w := (za_n.at zcc_81 dX8_tablesFor_25 rfl).trans (congrArg (fun x => za_go 26 l (.int x :: st) w) (by decide))
theorem f_81_26 (l : za_L) (st : List Value) (w : za_W) : za_n 81 (26, l, st, w) = za_go 30 l st w := (za_n.at zcc_81 dX8_tablesFor_26 rfl).trans (za_jp.at (by decide))
theorem f_81_29 (l : za_L) (st : List Value) (w : za_W) : za_n 81 (29, l, st, w) = za_go 30 l (.int (5) :: st) w := (za_n.at zcc_81 dX8_tablesFor_29 rfl).trans (congrArg (fun x => za_go 30 l (.int x :: st) w) (by decide))
theorem f_81_30 (l : za_L) (st : List Value) (w : za_W) : za_n 81 (30, l, st, w) = za_x 81 (.ireturn) 30 l st w := za_n.at zcc_81 dX8_tablesFor_30 rfl
theorem f_82_0 (l : za_L) (st : List Value) (w : za_W) : za_n 82 (0, l, st, w) = za_x 82 (.aload_n 0) 0 l st w := za_n.at zcc_82 dX8_setFirstCosts_0 rfl
theorem f_82_1 (l : za_L) (st : List Value) (w : za_W) : za_n 82 (1, l, st, w) = za_x 82 (.getfield 16) 1 l st w := za_n.at zcc_82 dX8_setFirstCosts_1 rfl
theorem f_82_4 (l : za_L) (st : List Value) (w : za_W) : za_n 82 (4, l, st, w) = za_go 5 l (.int (0) :: st) w := (za_n.at zcc_82 dX8_setFirstCosts_4 rfl).trans (congrArg (fun x => za_go 5 l (.int x :: st) w) (by decide))
theorem f_82_5 (l : za_L) (st : List Value) (w : za_W) : za_n 82 (5, l, st, w) = za_x 82 (.invokestatic 62) 5 l st w := za_n.at zcc_82 dX8_setFirstCosts_5 rfl
theorem f_82_8 (l : za_L) (st : List Value) (w : za_W) : za_n 82 (8, l, st, w) = za_go 9 l (.int (0) :: st) w := (za_n.at zcc_82 dX8_setFirstCosts_8 rfl).trans (congrArg (fun x => za_go 9 l (.int x :: st) w) (by decide))
theorem f_82_9 (l : za_L) (st : List Value) (w : za_W) : za_n 82 (9, l, st, w) = za_x 82 (.istore 4) 9 l st w := za_n.at zcc_82 dX8_setFirstCosts_9 rfl
theorem f_82_11 (l : za_L) (st : List Value) (w : za_W) : za_n 82 (11, l, st, w) = za_x 82 (.iload 4) 11 l st w := za_n.at zcc_82 dX8_setFirstCosts_11 rfl
theorem f_82_13 (l : za_L) (st : List Value) (w : za_W) : za_n 82 (13, l, st, w) = za_x 82 (.iload_n 2) 13 l st w := za_n.at zcc_82 dX8_setFirstCosts_13 rfl
theorem f_82_14 (l : za_L) (st : List Value) (w : za_W) : za_n 82 (14, l, st, w) = za_x 82 (.if_icmp .ge 22) 14 l st w := za_n.at zcc_82 dX8_setFirstCosts_14 rfl
theorem f_82_17 (l : za_L) (st : List Value) (w : za_W) : za_n 82 (17, l, st, w) = za_x 82 (.aload_n 0) 17 l st w := za_n.at zcc_82 dX8_setFirstCosts_17 rfl
theorem f_82_18 (l : za_L) (st : List Value) (w : za_W) : za_n 82 (18, l, st, w) = za_x 82 (.getfield 16) 18 l st w := za_n.at zcc_82 dX8_setFirstCosts_18 rfl
theorem f_82_21 (l : za_L) (st : List Value) (w : za_W) : za_n 82 (21, l, st, w) = za_x 82 (.aload_n 1) 21 l st w := za_n.at zcc_82 dX8_setFirstCosts_21 rfl
theorem f_82_22 (l : za_L) (st : List Value) (w : za_W) : za_n 82 (22, l, st, w) = za_x 82 (.iload 4) 22 l st w := za_n.at zcc_82 dX8_setFirstCosts_22 rfl
theorem f_82_24 (l : za_L) (st : List Value) (w : za_W) : za_n 82 (24, l, st, w) = za_x 82 (.iaload) 24 l st w := za_n.at zcc_82 dX8_setFirstCosts_24 rfl
theorem f_82_25 (l : za_L) (st : List Value) (w : za_W) : za_n 82 (25, l, st, w) = za_x 82 (.dup2) 25 l st w := za_n.at zcc_82 dX8_setFirstCosts_25 rfl
theorem f_82_26 (l : za_L) (st : List Value) (w : za_W) : za_n 82 (26, l, st, w) = za_x 82 (.iaload) 26 l st w := za_n.at zcc_82 dX8_setFirstCosts_26 rfl
theorem f_82_27 (l : za_L) (st : List Value) (w : za_W) : za_n 82 (27, l, st, w) = za_go 28 l (.int (1) :: st) w := (za_n.at zcc_82 dX8_setFirstCosts_27 rfl).trans (congrArg (fun x => za_go 28 l (.int x :: st) w) (by decide))
theorem f_82_28 (l : za_L) (st : List Value) (w : za_W) : za_n 82 (28, l, st, w) = za_x 82 (.iadd) 28 l st w := za_n.at zcc_82 dX8_setFirstCosts_28 rfl
theorem f_82_29 (l : za_L) (st : List Value) (w : za_W) : za_n 82 (29, l, st, w) = za_x 82 (.iastore) 29 l st w := za_n.at zcc_82 dX8_setFirstCosts_29 rfl
theorem f_82_30 (l : za_L) (st : List Value) (w : za_W) : za_n 82 (30, l, st, w) = za_x 82 (.iinc 4 1) 30 l st w := za_n.at zcc_82 dX8_setFirstCosts_30 rfl
theorem f_82_33 (l : za_L) (st : List Value) (w : za_W) : za_n 82 (33, l, st, w) = za_go 11 l st w := (za_n.at zcc_82 dX8_setFirstCosts_33 rfl).trans (za_jp.at (by decide))
theorem f_82_36 (l : za_L) (st : List Value) (w : za_W) : za_n 82 (36, l, st, w) = za_x 82 (.aload_n 3) 36 l st w := za_n.at zcc_82 dX8_setFirstCosts_36 rfl
theorem f_82_37 (l : za_L) (st : List Value) (w : za_W) : za_n 82 (37, l, st, w) = za_x 82 (.getfield 36) 37 l st w := za_n.at zcc_82 dX8_setFirstCosts_37 rfl
theorem f_82_40 (l : za_L) (st : List Value) (w : za_W) : za_n 82 (40, l, st, w) = za_go 41 l (.int (1) :: st) w := (za_n.at zcc_82 dX8_setFirstCosts_40 rfl).trans (congrArg (fun x => za_go 41 l (.int x :: st) w) (by decide))
theorem f_82_41 (l : za_L) (st : List Value) (w : za_W) : za_n 82 (41, l, st, w) = za_x 82 (.isub) 41 l st w := za_n.at zcc_82 dX8_setFirstCosts_41 rfl
theorem f_82_42 (l : za_L) (st : List Value) (w : za_W) : za_n 82 (42, l, st, w) = za_x 82 (.istore 4) 42 l st w := za_n.at zcc_82 dX8_setFirstCosts_42 rfl
theorem f_82_44 (l : za_L) (st : List Value) (w : za_W) : za_n 82 (44, l, st, w) = za_x 82 (.iload_n 2) 44 l st w := za_n.at zcc_82 dX8_setFirstCosts_44 rfl
theorem f_82_45 (l : za_L) (st : List Value) (w : za_W) : za_n 82 (45, l, st, w) = za_x 82 (.istore 5) 45 l st w := za_n.at zcc_82 dX8_setFirstCosts_45 rfl
theorem f_82_47 (l : za_L) (st : List Value) (w : za_W) : za_n 82 (47, l, st, w) = za_go 48 l (.int (0) :: st) w := (za_n.at zcc_82 dX8_setFirstCosts_47 rfl).trans (congrArg (fun x => za_go 48 l (.int x :: st) w) (by decide))
theorem f_82_48 (l : za_L) (st : List Value) (w : za_W) : za_n 82 (48, l, st, w) = za_x 82 (.istore 6) 48 l st w := za_n.at zcc_82 dX8_setFirstCosts_48 rfl
theorem f_82_50 (l : za_L) (st : List Value) (w : za_W) : za_n 82 (50, l, st, w) = za_x 82 (.iload 4) 50 l st w := za_n.at zcc_82 dX8_setFirstCosts_50 rfl
theorem f_82_52 (l : za_L) (st : List Value) (w : za_W) : za_n 82 (52, l, st, w) = za_x 82 (.istore 7) 52 l st w := za_n.at zcc_82 dX8_setFirstCosts_52 rfl
theorem f_82_54 (l : za_L) (st : List Value) (w : za_W) : za_n 82 (54, l, st, w) = za_x 82 (.iload 7) 54 l st w := za_n.at zcc_82 dX8_setFirstCosts_54 rfl
theorem f_82_56 (l : za_L) (st : List Value) (w : za_W) : za_n 82 (56, l, st, w) = za_x 82 (.ifCond .lt 165) 56 l st w := za_n.at zcc_82 dX8_setFirstCosts_56 rfl
theorem f_82_59 (l : za_L) (st : List Value) (w : za_W) : za_n 82 (59, l, st, w) = za_x 82 (.iload 5) 59 l st w := za_n.at zcc_82 dX8_setFirstCosts_59 rfl
theorem f_82_61 (l : za_L) (st : List Value) (w : za_W) : za_n 82 (61, l, st, w) = za_x 82 (.iload 7) 61 l st w := za_n.at zcc_82 dX8_setFirstCosts_61 rfl
theorem f_82_63 (l : za_L) (st : List Value) (w : za_W) : za_n 82 (63, l, st, w) = za_go 64 l (.int (1) :: st) w := (za_n.at zcc_82 dX8_setFirstCosts_63 rfl).trans (congrArg (fun x => za_go 64 l (.int x :: st) w) (by decide))
theorem f_82_64 (l : za_L) (st : List Value) (w : za_W) : za_n 82 (64, l, st, w) = za_x 82 (.iadd) 64 l st w := za_n.at zcc_82 dX8_setFirstCosts_64 rfl
theorem f_82_65 (l : za_L) (st : List Value) (w : za_W) : za_n 82 (65, l, st, w) = za_x 82 (.idiv) 65 l st w := za_n.at zcc_82 dX8_setFirstCosts_65 rfl
theorem f_82_66 (l : za_L) (st : List Value) (w : za_W) : za_n 82 (66, l, st, w) = za_x 82 (.istore 8) 66 l st w := za_n.at zcc_82 dX8_setFirstCosts_66 rfl
theorem f_82_68 (l : za_L) (st : List Value) (w : za_W) : za_n 82 (68, l, st, w) = za_go 69 l (.int (0) :: st) w := (za_n.at zcc_82 dX8_setFirstCosts_68 rfl).trans (congrArg (fun x => za_go 69 l (.int x :: st) w) (by decide))
theorem f_82_69 (l : za_L) (st : List Value) (w : za_W) : za_n 82 (69, l, st, w) = za_x 82 (.istore 9) 69 l st w := za_n.at zcc_82 dX8_setFirstCosts_69 rfl
theorem f_82_71 (l : za_L) (st : List Value) (w : za_W) : za_n 82 (71, l, st, w) = za_x 82 (.iload 6) 71 l st w := za_n.at zcc_82 dX8_setFirstCosts_71 rfl
theorem f_82_73 (l : za_L) (st : List Value) (w : za_W) : za_n 82 (73, l, st, w) = za_x 82 (.istore 10) 73 l st w := za_n.at zcc_82 dX8_setFirstCosts_73 rfl
theorem f_82_75 (l : za_L) (st : List Value) (w : za_W) : za_n 82 (75, l, st, w) = za_x 82 (.iload 10) 75 l st w := za_n.at zcc_82 dX8_setFirstCosts_75 rfl
theorem f_82_77 (l : za_L) (st : List Value) (w : za_W) : za_n 82 (77, l, st, w) = za_x 82 (.aload_n 3) 77 l st w := za_n.at zcc_82 dX8_setFirstCosts_77 rfl
theorem f_82_78 (l : za_L) (st : List Value) (w : za_W) : za_n 82 (78, l, st, w) = za_x 82 (.getfield 52) 78 l st w := za_n.at zcc_82 dX8_setFirstCosts_78 rfl
theorem f_82_81 (l : za_L) (st : List Value) (w : za_W) : za_n 82 (81, l, st, w) = za_x 82 (.if_icmp .ge 28) 81 l st w := za_n.at zcc_82 dX8_setFirstCosts_81 rfl
theorem f_82_84 (l : za_L) (st : List Value) (w : za_W) : za_n 82 (84, l, st, w) = za_x 82 (.iload 9) 84 l st w := za_n.at zcc_82 dX8_setFirstCosts_84 rfl
theorem f_82_86 (l : za_L) (st : List Value) (w : za_W) : za_n 82 (86, l, st, w) = za_x 82 (.iload 8) 86 l st w := za_n.at zcc_82 dX8_setFirstCosts_86 rfl
theorem f_82_88 (l : za_L) (st : List Value) (w : za_W) : za_n 82 (88, l, st, w) = za_x 82 (.if_icmp .ge 21) 88 l st w := za_n.at zcc_82 dX8_setFirstCosts_88 rfl
theorem f_82_91 (l : za_L) (st : List Value) (w : za_W) : za_n 82 (91, l, st, w) = za_x 82 (.iload 9) 91 l st w := za_n.at zcc_82 dX8_setFirstCosts_91 rfl
theorem f_82_93 (l : za_L) (st : List Value) (w : za_W) : za_n 82 (93, l, st, w) = za_x 82 (.aload_n 0) 93 l st w := za_n.at zcc_82 dX8_setFirstCosts_93 rfl
theorem f_82_94 (l : za_L) (st : List Value) (w : za_W) : za_n 82 (94, l, st, w) = za_x 82 (.getfield 16) 94 l st w := za_n.at zcc_82 dX8_setFirstCosts_94 rfl
theorem f_82_97 (l : za_L) (st : List Value) (w : za_W) : za_n 82 (97, l, st, w) = za_x 82 (.iload 10) 97 l st w := za_n.at zcc_82 dX8_setFirstCosts_97 rfl
theorem f_82_99 (l : za_L) (st : List Value) (w : za_W) : za_n 82 (99, l, st, w) = za_x 82 (.iaload) 99 l st w := za_n.at zcc_82 dX8_setFirstCosts_99 rfl
theorem f_82_100 (l : za_L) (st : List Value) (w : za_W) : za_n 82 (100, l, st, w) = za_x 82 (.iadd) 100 l st w := za_n.at zcc_82 dX8_setFirstCosts_100 rfl
theorem f_82_101 (l : za_L) (st : List Value) (w : za_W) : za_n 82 (101, l, st, w) = za_x 82 (.istore 9) 101 l st w := za_n.at zcc_82 dX8_setFirstCosts_101 rfl
theorem f_82_103 (l : za_L) (st : List Value) (w : za_W) : za_n 82 (103, l, st, w) = za_x 82 (.iinc 10 1) 103 l st w := za_n.at zcc_82 dX8_setFirstCosts_103 rfl
theorem f_82_106 (l : za_L) (st : List Value) (w : za_W) : za_n 82 (106, l, st, w) = za_go 75 l st w := (za_n.at zcc_82 dX8_setFirstCosts_106 rfl).trans (za_jp.at (by decide))
theorem f_82_109 (l : za_L) (st : List Value) (w : za_W) : za_n 82 (109, l, st, w) = za_x 82 (.iload 10) 109 l st w := za_n.at zcc_82 dX8_setFirstCosts_109 rfl
theorem f_82_111 (l : za_L) (st : List Value) (w : za_W) : za_n 82 (111, l, st, w) = za_x 82 (.iload 6) 111 l st w := za_n.at zcc_82 dX8_setFirstCosts_111 rfl
theorem f_82_113 (l : za_L) (st : List Value) (w : za_W) : za_n 82 (113, l, st, w) = za_x 82 (.isub) 113 l st w := za_n.at zcc_82 dX8_setFirstCosts_113 rfl
theorem f_82_114 (l : za_L) (st : List Value) (w : za_W) : za_n 82 (114, l, st, w) = za_go 115 l (.int (1) :: st) w := (za_n.at zcc_82 dX8_setFirstCosts_114 rfl).trans (congrArg (fun x => za_go 115 l (.int x :: st) w) (by decide))
theorem f_82_115 (l : za_L) (st : List Value) (w : za_W) : za_n 82 (115, l, st, w) = za_x 82 (.if_icmp .le 41) 115 l st w := za_n.at zcc_82 dX8_setFirstCosts_115 rfl
theorem f_82_118 (l : za_L) (st : List Value) (w : za_W) : za_n 82 (118, l, st, w) = za_x 82 (.iload 7) 118 l st w := za_n.at zcc_82 dX8_setFirstCosts_118 rfl
theorem f_82_120 (l : za_L) (st : List Value) (w : za_W) : za_n 82 (120, l, st, w) = za_x 82 (.iload 4) 120 l st w := za_n.at zcc_82 dX8_setFirstCosts_120 rfl
theorem f_82_122 (l : za_L) (st : List Value) (w : za_W) : za_n 82 (122, l, st, w) = za_x 82 (.if_icmp .eq 34) 122 l st w := za_n.at zcc_82 dX8_setFirstCosts_122 rfl
theorem f_82_125 (l : za_L) (st : List Value) (w : za_W) : za_n 82 (125, l, st, w) = za_x 82 (.iload 7) 125 l st w := za_n.at zcc_82 dX8_setFirstCosts_125 rfl
theorem f_82_127 (l : za_L) (st : List Value) (w : za_W) : za_n 82 (127, l, st, w) = za_x 82 (.ifCond .eq 29) 127 l st w := za_n.at zcc_82 dX8_setFirstCosts_127 rfl
theorem f_82_130 (l : za_L) (st : List Value) (w : za_W) : za_n 82 (130, l, st, w) = za_x 82 (.iload 4) 130 l st w := za_n.at zcc_82 dX8_setFirstCosts_130 rfl
theorem f_82_132 (l : za_L) (st : List Value) (w : za_W) : za_n 82 (132, l, st, w) = za_x 82 (.iload 7) 132 l st w := za_n.at zcc_82 dX8_setFirstCosts_132 rfl
theorem f_82_134 (l : za_L) (st : List Value) (w : za_W) : za_n 82 (134, l, st, w) = za_x 82 (.isub) 134 l st w := za_n.at zcc_82 dX8_setFirstCosts_134 rfl
theorem f_82_135 (l : za_L) (st : List Value) (w : za_W) : za_n 82 (135, l, st, w) = za_go 136 l (.int (2) :: st) w := (za_n.at zcc_82 dX8_setFirstCosts_135 rfl).trans (congrArg (fun x => za_go 136 l (.int x :: st) w) (by decide))
theorem f_82_136 (l : za_L) (st : List Value) (w : za_W) : za_n 82 (136, l, st, w) = za_x 82 (.irem) 136 l st w := za_n.at zcc_82 dX8_setFirstCosts_136 rfl
theorem f_82_137 (l : za_L) (st : List Value) (w : za_W) : za_n 82 (137, l, st, w) = za_go 138 l (.int (1) :: st) w := (za_n.at zcc_82 dX8_setFirstCosts_137 rfl).trans (congrArg (fun x => za_go 138 l (.int x :: st) w) (by decide))
theorem f_82_138 (l : za_L) (st : List Value) (w : za_W) : za_n 82 (138, l, st, w) = za_x 82 (.if_icmp .ne 18) 138 l st w := za_n.at zcc_82 dX8_setFirstCosts_138 rfl
theorem f_82_141 (l : za_L) (st : List Value) (w : za_W) : za_n 82 (141, l, st, w) = za_x 82 (.iinc 10 (-1)) 141 l st w := za_n.at zcc_82 dX8_setFirstCosts_141 rfl
theorem f_82_144 (l : za_L) (st : List Value) (w : za_W) : za_n 82 (144, l, st, w) = za_x 82 (.iload 9) 144 l st w := za_n.at zcc_82 dX8_setFirstCosts_144 rfl
theorem f_82_146 (l : za_L) (st : List Value) (w : za_W) : za_n 82 (146, l, st, w) = za_x 82 (.aload_n 0) 146 l st w := za_n.at zcc_82 dX8_setFirstCosts_146 rfl
theorem f_82_147 (l : za_L) (st : List Value) (w : za_W) : za_n 82 (147, l, st, w) = za_x 82 (.getfield 16) 147 l st w := za_n.at zcc_82 dX8_setFirstCosts_147 rfl
theorem f_82_150 (l : za_L) (st : List Value) (w : za_W) : za_n 82 (150, l, st, w) = za_x 82 (.iload 10) 150 l st w := za_n.at zcc_82 dX8_setFirstCosts_150 rfl
theorem f_82_152 (l : za_L) (st : List Value) (w : za_W) : za_n 82 (152, l, st, w) = za_x 82 (.iaload) 152 l st w := za_n.at zcc_82 dX8_setFirstCosts_152 rfl
theorem f_82_153 (l : za_L) (st : List Value) (w : za_W) : za_n 82 (153, l, st, w) = za_x 82 (.isub) 153 l st w := za_n.at zcc_82 dX8_setFirstCosts_153 rfl
theorem f_82_154 (l : za_L) (st : List Value) (w : za_W) : za_n 82 (154, l, st, w) = za_x 82 (.istore 9) 154 l st w := za_n.at zcc_82 dX8_setFirstCosts_154 rfl
theorem f_82_156 (l : za_L) (st : List Value) (w : za_W) : za_n 82 (156, l, st, w) = za_go 157 l (.int (0) :: st) w := (za_n.at zcc_82 dX8_setFirstCosts_156 rfl).trans (congrArg (fun x => za_go 157 l (.int x :: st) w) (by decide))
theorem f_82_157 (l : za_L) (st : List Value) (w : za_W) : za_n 82 (157, l, st, w) = za_x 82 (.istore 11) 157 l st w := za_n.at zcc_82 dX8_setFirstCosts_157 rfl
theorem f_82_159 (l : za_L) (st : List Value) (w : za_W) : za_n 82 (159, l, st, w) = za_x 82 (.iload 11) 159 l st w := za_n.at zcc_82 dX8_setFirstCosts_159 rfl
theorem f_82_161 (l : za_L) (st : List Value) (w : za_W) : za_n 82 (161, l, st, w) = za_x 82 (.aload_n 3) 161 l st w := za_n.at zcc_82 dX8_setFirstCosts_161 rfl
theorem f_82_162 (l : za_L) (st : List Value) (w : za_W) : za_n 82 (162, l, st, w) = za_x 82 (.getfield 52) 162 l st w := za_n.at zcc_82 dX8_setFirstCosts_162 rfl
theorem f_82_165 (l : za_L) (st : List Value) (w : za_W) : za_n 82 (165, l, st, w) = za_x 82 (.if_icmp .ge 39) 165 l st w := za_n.at zcc_82 dX8_setFirstCosts_165 rfl
theorem f_82_168 (l : za_L) (st : List Value) (w : za_W) : za_n 82 (168, l, st, w) = za_x 82 (.aload_n 3) 168 l st w := za_n.at zcc_82 dX8_setFirstCosts_168 rfl
theorem f_82_169 (l : za_L) (st : List Value) (w : za_W) : za_n 82 (169, l, st, w) = za_x 82 (.getfield 55) 169 l st w := za_n.at zcc_82 dX8_setFirstCosts_169 rfl
theorem f_82_172 (l : za_L) (st : List Value) (w : za_W) : za_n 82 (172, l, st, w) = za_x 82 (.iload 7) 172 l st w := za_n.at zcc_82 dX8_setFirstCosts_172 rfl
theorem f_82_174 (l : za_L) (st : List Value) (w : za_W) : za_n 82 (174, l, st, w) = za_x 82 (.aaload) 174 l st w := za_n.at zcc_82 dX8_setFirstCosts_174 rfl
theorem f_82_175 (l : za_L) (st : List Value) (w : za_W) : za_n 82 (175, l, st, w) = za_x 82 (.iload 11) 175 l st w := za_n.at zcc_82 dX8_setFirstCosts_175 rfl
theorem f_82_177 (l : za_L) (st : List Value) (w : za_W) : za_n 82 (177, l, st, w) = za_x 82 (.iload 11) 177 l st w := za_n.at zcc_82 dX8_setFirstCosts_177 rfl
theorem f_82_179 (l : za_L) (st : List Value) (w : za_W) : za_n 82 (179, l, st, w) = za_x 82 (.iload 6) 179 l st w := za_n.at zcc_82 dX8_setFirstCosts_179 rfl
theorem f_82_181 (l : za_L) (st : List Value) (w : za_W) : za_n 82 (181, l, st, w) = za_x 82 (.if_icmp .lt 14) 181 l st w := za_n.at zcc_82 dX8_setFirstCosts_181 rfl
theorem f_82_184 (l : za_L) (st : List Value) (w : za_W) : za_n 82 (184, l, st, w) = za_x 82 (.iload 11) 184 l st w := za_n.at zcc_82 dX8_setFirstCosts_184 rfl
theorem f_82_186 (l : za_L) (st : List Value) (w : za_W) : za_n 82 (186, l, st, w) = za_x 82 (.iload 10) 186 l st w := za_n.at zcc_82 dX8_setFirstCosts_186 rfl
theorem f_82_188 (l : za_L) (st : List Value) (w : za_W) : za_n 82 (188, l, st, w) = za_x 82 (.if_icmp .ge 7) 188 l st w := za_n.at zcc_82 dX8_setFirstCosts_188 rfl
theorem f_82_191 (l : za_L) (st : List Value) (w : za_W) : za_n 82 (191, l, st, w) = za_go 192 l (.int (0) :: st) w := (za_n.at zcc_82 dX8_setFirstCosts_191 rfl).trans (congrArg (fun x => za_go 192 l (.int x :: st) w) (by decide))
theorem f_82_192 (l : za_L) (st : List Value) (w : za_W) : za_n 82 (192, l, st, w) = za_go 197 l st w := (za_n.at zcc_82 dX8_setFirstCosts_192 rfl).trans (za_jp.at (by decide))
theorem f_82_195 (l : za_L) (st : List Value) (w : za_W) : za_n 82 (195, l, st, w) = za_go 197 l (.int (15) :: st) w := (za_n.at zcc_82 dX8_setFirstCosts_195 rfl).trans (congrArg (fun x => za_go 197 l (.int x :: st) w) (by decide))
theorem f_82_197 (l : za_L) (st : List Value) (w : za_W) : za_n 82 (197, l, st, w) = za_x 82 (.iastore) 197 l st w := za_n.at zcc_82 dX8_setFirstCosts_197 rfl
theorem f_82_198 (l : za_L) (st : List Value) (w : za_W) : za_n 82 (198, l, st, w) = za_x 82 (.iinc 11 1) 198 l st w := za_n.at zcc_82 dX8_setFirstCosts_198 rfl
theorem f_82_201 (l : za_L) (st : List Value) (w : za_W) : za_n 82 (201, l, st, w) = za_go 159 l st w := (za_n.at zcc_82 dX8_setFirstCosts_201 rfl).trans (za_jp.at (by decide))
theorem f_82_204 (l : za_L) (st : List Value) (w : za_W) : za_n 82 (204, l, st, w) = za_x 82 (.iload 5) 204 l st w := za_n.at zcc_82 dX8_setFirstCosts_204 rfl
theorem f_82_206 (l : za_L) (st : List Value) (w : za_W) : za_n 82 (206, l, st, w) = za_x 82 (.iload 9) 206 l st w := za_n.at zcc_82 dX8_setFirstCosts_206 rfl
theorem f_82_208 (l : za_L) (st : List Value) (w : za_W) : za_n 82 (208, l, st, w) = za_x 82 (.isub) 208 l st w := za_n.at zcc_82 dX8_setFirstCosts_208 rfl
theorem f_82_209 (l : za_L) (st : List Value) (w : za_W) : za_n 82 (209, l, st, w) = za_x 82 (.istore 5) 209 l st w := za_n.at zcc_82 dX8_setFirstCosts_209 rfl
theorem f_82_211 (l : za_L) (st : List Value) (w : za_W) : za_n 82 (211, l, st, w) = za_x 82 (.iload 10) 211 l st w := za_n.at zcc_82 dX8_setFirstCosts_211 rfl
theorem f_82_213 (l : za_L) (st : List Value) (w : za_W) : za_n 82 (213, l, st, w) = za_x 82 (.istore 6) 213 l st w := za_n.at zcc_82 dX8_setFirstCosts_213 rfl
theorem f_82_215 (l : za_L) (st : List Value) (w : za_W) : za_n 82 (215, l, st, w) = za_x 82 (.iinc 7 (-1)) 215 l st w := za_n.at zcc_82 dX8_setFirstCosts_215 rfl
theorem f_82_218 (l : za_L) (st : List Value) (w : za_W) : za_n 82 (218, l, st, w) = za_go 54 l st w := (za_n.at zcc_82 dX8_setFirstCosts_218 rfl).trans (za_jp.at (by decide))
theorem f_82_221 (l : za_L) (st : List Value) (w : za_W) : za_n 82 (221, l, st, w) = za_x 82 (.return_) 221 l st w := za_n.at zcc_82 dX8_setFirstCosts_221 rfl
theorem f_83_0 (l : za_L) (st : List Value) (w : za_W) : za_n 83 (0, l, st, w) = za_go 1 l (.int (0) :: st) w := (za_n.at zcc_83 dX8_chooseAll_0 rfl).trans (congrArg (fun x => za_go 1 l (.int x :: st) w) (by decide))
theorem f_83_1 (l : za_L) (st : List Value) (w : za_W) : za_n 83 (1, l, st, w) = za_x 83 (.istore 4) 1 l st w := za_n.at zcc_83 dX8_chooseAll_1 rfl
theorem f_83_3 (l : za_L) (st : List Value) (w : za_W) : za_n 83 (3, l, st, w) = za_x 83 (.iload 4) 3 l st w := za_n.at zcc_83 dX8_chooseAll_3 rfl
theorem f_83_5 (l : za_L) (st : List Value) (w : za_W) : za_n 83 (5, l, st, w) = za_x 83 (.aload_n 3) 5 l st w := za_n.at zcc_83 dX8_chooseAll_5 rfl
theorem f_83_6 (l : za_L) (st : List Value) (w : za_W) : za_n 83 (6, l, st, w) = za_x 83 (.getfield 36) 6 l st w := za_n.at zcc_83 dX8_chooseAll_6 rfl
theorem f_83_9 (l : za_L) (st : List Value) (w : za_W) : za_n 83 (9, l, st, w) = za_x 83 (.if_icmp .ge 20) 9 l st w := za_n.at zcc_83 dX8_chooseAll_9 rfl
theorem f_83_12 (l : za_L) (st : List Value) (w : za_W) : za_n 83 (12, l, st, w) = za_x 83 (.aload_n 0) 12 l st w := za_n.at zcc_83 dX8_chooseAll_12 rfl
theorem f_83_13 (l : za_L) (st : List Value) (w : za_W) : za_n 83 (13, l, st, w) = za_x 83 (.getfield 11) 13 l st w := za_n.at zcc_83 dX8_chooseAll_13 rfl
theorem f_83_16 (l : za_L) (st : List Value) (w : za_W) : za_n 83 (16, l, st, w) = za_x 83 (.iload 4) 16 l st w := za_n.at zcc_83 dX8_chooseAll_16 rfl
theorem f_83_18 (l : za_L) (st : List Value) (w : za_W) : za_n 83 (18, l, st, w) = za_x 83 (.aaload) 18 l st w := za_n.at zcc_83 dX8_chooseAll_18 rfl
theorem f_83_19 (l : za_L) (st : List Value) (w : za_W) : za_n 83 (19, l, st, w) = za_go 20 l (.int (0) :: st) w := (za_n.at zcc_83 dX8_chooseAll_19 rfl).trans (congrArg (fun x => za_go 20 l (.int x :: st) w) (by decide))
theorem f_83_20 (l : za_L) (st : List Value) (w : za_W) : za_n 83 (20, l, st, w) = za_x 83 (.invokestatic 62) 20 l st w := za_n.at zcc_83 dX8_chooseAll_20 rfl
theorem f_83_23 (l : za_L) (st : List Value) (w : za_W) : za_n 83 (23, l, st, w) = za_x 83 (.iinc 4 1) 23 l st w := za_n.at zcc_83 dX8_chooseAll_23 rfl
theorem f_83_26 (l : za_L) (st : List Value) (w : za_W) : za_n 83 (26, l, st, w) = za_go 3 l st w := (za_n.at zcc_83 dX8_chooseAll_26 rfl).trans (za_jp.at (by decide))
theorem f_83_29 (l : za_L) (st : List Value) (w : za_W) : za_n 83 (29, l, st, w) = za_go 30 l (.int (0) :: st) w := (za_n.at zcc_83 dX8_chooseAll_29 rfl).trans (congrArg (fun x => za_go 30 l (.int x :: st) w) (by decide))
theorem f_83_30 (l : za_L) (st : List Value) (w : za_W) : za_n 83 (30, l, st, w) = za_x 83 (.istore 4) 30 l st w := za_n.at zcc_83 dX8_chooseAll_30 rfl
theorem f_83_32 (l : za_L) (st : List Value) (w : za_W) : za_n 83 (32, l, st, w) = za_x 83 (.iload 4) 32 l st w := za_n.at zcc_83 dX8_chooseAll_32 rfl
theorem f_83_34 (l : za_L) (st : List Value) (w : za_W) : za_n 83 (34, l, st, w) = za_x 83 (.aload_n 3) 34 l st w := za_n.at zcc_83 dX8_chooseAll_34 rfl
theorem f_83_35 (l : za_L) (st : List Value) (w : za_W) : za_n 83 (35, l, st, w) = za_x 83 (.getfield 42) 35 l st w := za_n.at zcc_83 dX8_chooseAll_35 rfl
