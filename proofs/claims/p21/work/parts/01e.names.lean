theorem bX5_make_11 : dk cX5_make [(11, .getfield 9, 3), (14, .iconst 0, 1), (15, .lconst 0, 1), (16, .lastore, 1), (17, .iconst 0, 1), (18, .istore_n 1, 1), (19, .iload_n 1, 1), (20, .iconst 4, 1), (21, .if_icmp .ge 35, 3), (24, .aload_n 0, 1), (25, .getfield 33, 3), (28, .getfield 54, 3), (31, .iload_n 1, 1), (32, .iaload, 1), (33, .iconst (-1), 1), (34, .if_icmp .eq 16, 3), (37, .aload_n 0, 1), (38, .getfield 42, 3), (41, .iload_n 1, 1), (42, .invokevirtual 59, 3), (45, .aload_n 0, 1), (46, .iload_n 1, 1), (47, .invokevirtual 63, 3), (50, .iinc 1 1, 3), (53, .goto (-34), 3), (56, .aload_n 0, 1), (57, .invokevirtual 66, 3), (60, .iconst 0, 1), (61, .istore_n 1, 1), (62, .iload_n 1, 1), (63, .iconst 4, 1), (64, .if_icmp .ge 14, 3), (67, .aload_n 0, 1), (68, .iload_n 1, 1), (69, .invokevirtual 69, 3), (72, .iinc 1 1, 3), (75, .goto (-13), 3), (78, .aload_n 0, 1), (79, .iconst 1, 1), (80, .putfield 22, 3)] = true := by decide +kernel
theorem dX5_make_11 : decode cX5_make 11 = .ok (.getfield 9, 3) := dk_at bX5_make_11 0 rfl
theorem dX5_make_14 : decode cX5_make 14 = .ok (.iconst 0, 1) := dk_at bX5_make_11 1 rfl
theorem dX5_make_15 : decode cX5_make 15 = .ok (.lconst 0, 1) := dk_at bX5_make_11 2 rfl
theorem dX5_make_16 : decode cX5_make 16 = .ok (.lastore, 1) := dk_at bX5_make_11 3 rfl
theorem dX5_make_17 : decode cX5_make 17 = .ok (.iconst 0, 1) := dk_at bX5_make_11 4 rfl
theorem dX5_make_18 : decode cX5_make 18 = .ok (.istore_n 1, 1) := dk_at bX5_make_11 5 rfl
theorem dX5_make_19 : decode cX5_make 19 = .ok (.iload_n 1, 1) := dk_at bX5_make_11 6 rfl
theorem dX5_make_20 : decode cX5_make 20 = .ok (.iconst 4, 1) := dk_at bX5_make_11 7 rfl
theorem dX5_make_21 : decode cX5_make 21 = .ok (.if_icmp .ge 35, 3) := dk_at bX5_make_11 8 rfl
theorem dX5_make_24 : decode cX5_make 24 = .ok (.aload_n 0, 1) := dk_at bX5_make_11 9 rfl
theorem dX5_make_25 : decode cX5_make 25 = .ok (.getfield 33, 3) := dk_at bX5_make_11 10 rfl
theorem dX5_make_28 : decode cX5_make 28 = .ok (.getfield 54, 3) := dk_at bX5_make_11 11 rfl
theorem dX5_make_31 : decode cX5_make 31 = .ok (.iload_n 1, 1) := dk_at bX5_make_11 12 rfl
theorem dX5_make_32 : decode cX5_make 32 = .ok (.iaload, 1) := dk_at bX5_make_11 13 rfl
theorem dX5_make_33 : decode cX5_make 33 = .ok (.iconst (-1), 1) := dk_at bX5_make_11 14 rfl
theorem dX5_make_34 : decode cX5_make 34 = .ok (.if_icmp .eq 16, 3) := dk_at bX5_make_11 15 rfl
theorem dX5_make_37 : decode cX5_make 37 = .ok (.aload_n 0, 1) := dk_at bX5_make_11 16 rfl
theorem dX5_make_38 : decode cX5_make 38 = .ok (.getfield 42, 3) := dk_at bX5_make_11 17 rfl
theorem dX5_make_41 : decode cX5_make 41 = .ok (.iload_n 1, 1) := dk_at bX5_make_11 18 rfl
theorem dX5_make_42 : decode cX5_make 42 = .ok (.invokevirtual 59, 3) := dk_at bX5_make_11 19 rfl
theorem dX5_make_45 : decode cX5_make 45 = .ok (.aload_n 0, 1) := dk_at bX5_make_11 20 rfl
theorem dX5_make_46 : decode cX5_make 46 = .ok (.iload_n 1, 1) := dk_at bX5_make_11 21 rfl
theorem dX5_make_47 : decode cX5_make 47 = .ok (.invokevirtual 63, 3) := dk_at bX5_make_11 22 rfl
theorem dX5_make_50 : decode cX5_make 50 = .ok (.iinc 1 1, 3) := dk_at bX5_make_11 23 rfl
theorem dX5_make_53 : decode cX5_make 53 = .ok (.goto (-34), 3) := dk_at bX5_make_11 24 rfl
theorem dX5_make_56 : decode cX5_make 56 = .ok (.aload_n 0, 1) := dk_at bX5_make_11 25 rfl
theorem dX5_make_57 : decode cX5_make 57 = .ok (.invokevirtual 66, 3) := dk_at bX5_make_11 26 rfl
theorem dX5_make_60 : decode cX5_make 60 = .ok (.iconst 0, 1) := dk_at bX5_make_11 27 rfl
theorem dX5_make_61 : decode cX5_make 61 = .ok (.istore_n 1, 1) := dk_at bX5_make_11 28 rfl
theorem dX5_make_62 : decode cX5_make 62 = .ok (.iload_n 1, 1) := dk_at bX5_make_11 29 rfl
theorem dX5_make_63 : decode cX5_make 63 = .ok (.iconst 4, 1) := dk_at bX5_make_11 30 rfl
theorem dX5_make_64 : decode cX5_make 64 = .ok (.if_icmp .ge 14, 3) := dk_at bX5_make_11 31 rfl
theorem dX5_make_67 : decode cX5_make 67 = .ok (.aload_n 0, 1) := dk_at bX5_make_11 32 rfl
theorem dX5_make_68 : decode cX5_make 68 = .ok (.iload_n 1, 1) := dk_at bX5_make_11 33 rfl
theorem dX5_make_69 : decode cX5_make 69 = .ok (.invokevirtual 69, 3) := dk_at bX5_make_11 34 rfl
theorem dX5_make_72 : decode cX5_make 72 = .ok (.iinc 1 1, 3) := dk_at bX5_make_11 35 rfl
theorem dX5_make_75 : decode cX5_make 75 = .ok (.goto (-13), 3) := dk_at bX5_make_11 36 rfl
theorem dX5_make_78 : decode cX5_make 78 = .ok (.aload_n 0, 1) := dk_at bX5_make_11 37 rfl
theorem dX5_make_79 : decode cX5_make 79 = .ok (.iconst 1, 1) := dk_at bX5_make_11 38 rfl
theorem dX5_make_80 : decode cX5_make 80 = .ok (.putfield 22, 3) := dk_at bX5_make_11 39 rfl
theorem dX5_make_83 : decode cX5_make 83 = .ok (.return_, 1) := by decide +kernel
set_option maxRecDepth 20000 in
theorem ggX5_joinCrew_X5_weightOf : GoodIn wsX5_joinCrew wsX5_weightOf := goodIn_r _ [15] rfl (by decide +kernel)
set_option maxRecDepth 20000 in
theorem gX5_joinCrew_X5_weightOf : GoodIn wsX5_joinCrew (va_wsS RX5 80 yX5_weightOf wsX5_weightOf) := goodIn_app (goodIn_r _ [12, 13, 14] rfl (by decide +kernel)) ggX5_joinCrew_X5_weightOf
theorem bX5_joinCrew_0 : dk cX5_joinCrew [(0, .iconst 1, 1), (1, .aload_n 0, 1), (2, .getfield 33, 3), (5, .getfield 72, 3), (8, .ishl, 1), (9, .iconst 1, 1), (10, .isub, 1), (11, .istore_n 2, 1), (12, .iload_n 2, 1), (13, .ifCond .le 105, 3), (16, .iload_n 2, 1), (17, .istore_n 3, 1), (18, .iload_n 3, 1), (19, .ifCond .le 93, 3), (22, .aload_n 0, 1), (23, .getfield 42, 3), (26, .getfield 75, 3), (29, .iload_n 1, 1), (30, .sipush 128, 3), (33, .imul, 1), (34, .iload_n 3, 1), (35, .iadd, 1), (36, .iaload, 1), (37, .istore 4, 2), (39, .iload 4, 2), (41, .iconst (-1), 1), (42, .if_icmp .eq 61, 3), (45, .aload_n 0, 1), (46, .getfield 9, 3), (49, .iload_n 2, 1), (50, .iload_n 3, 1), (51, .ixor, 1), (52, .laload, 1), (53, .ldc2_w 46, 3), (56, .lcmp, 1), (57, .ifCond .ge 46, 3), (60, .aload_n 0, 1), (61, .getfield 9, 3), (64, .iload_n 2, 1), (65, .iload_n 3, 1)] = true := by decide +kernel
theorem dX5_joinCrew_0 : decode cX5_joinCrew 0 = .ok (.iconst 1, 1) := dk_at bX5_joinCrew_0 0 rfl
theorem dX5_joinCrew_1 : decode cX5_joinCrew 1 = .ok (.aload_n 0, 1) := dk_at bX5_joinCrew_0 1 rfl
theorem dX5_joinCrew_2 : decode cX5_joinCrew 2 = .ok (.getfield 33, 3) := dk_at bX5_joinCrew_0 2 rfl
theorem dX5_joinCrew_5 : decode cX5_joinCrew 5 = .ok (.getfield 72, 3) := dk_at bX5_joinCrew_0 3 rfl
theorem dX5_joinCrew_8 : decode cX5_joinCrew 8 = .ok (.ishl, 1) := dk_at bX5_joinCrew_0 4 rfl
theorem dX5_joinCrew_9 : decode cX5_joinCrew 9 = .ok (.iconst 1, 1) := dk_at bX5_joinCrew_0 5 rfl
theorem dX5_joinCrew_10 : decode cX5_joinCrew 10 = .ok (.isub, 1) := dk_at bX5_joinCrew_0 6 rfl
theorem dX5_joinCrew_11 : decode cX5_joinCrew 11 = .ok (.istore_n 2, 1) := dk_at bX5_joinCrew_0 7 rfl
theorem dX5_joinCrew_12 : decode cX5_joinCrew 12 = .ok (.iload_n 2, 1) := dk_at bX5_joinCrew_0 8 rfl
theorem dX5_joinCrew_13 : decode cX5_joinCrew 13 = .ok (.ifCond .le 105, 3) := dk_at bX5_joinCrew_0 9 rfl
theorem dX5_joinCrew_16 : decode cX5_joinCrew 16 = .ok (.iload_n 2, 1) := dk_at bX5_joinCrew_0 10 rfl
theorem dX5_joinCrew_17 : decode cX5_joinCrew 17 = .ok (.istore_n 3, 1) := dk_at bX5_joinCrew_0 11 rfl
theorem dX5_joinCrew_18 : decode cX5_joinCrew 18 = .ok (.iload_n 3, 1) := dk_at bX5_joinCrew_0 12 rfl
theorem dX5_joinCrew_19 : decode cX5_joinCrew 19 = .ok (.ifCond .le 93, 3) := dk_at bX5_joinCrew_0 13 rfl
theorem dX5_joinCrew_22 : decode cX5_joinCrew 22 = .ok (.aload_n 0, 1) := dk_at bX5_joinCrew_0 14 rfl
theorem dX5_joinCrew_23 : decode cX5_joinCrew 23 = .ok (.getfield 42, 3) := dk_at bX5_joinCrew_0 15 rfl
theorem dX5_joinCrew_26 : decode cX5_joinCrew 26 = .ok (.getfield 75, 3) := dk_at bX5_joinCrew_0 16 rfl
theorem dX5_joinCrew_29 : decode cX5_joinCrew 29 = .ok (.iload_n 1, 1) := dk_at bX5_joinCrew_0 17 rfl
theorem dX5_joinCrew_30 : decode cX5_joinCrew 30 = .ok (.sipush 128, 3) := dk_at bX5_joinCrew_0 18 rfl
theorem dX5_joinCrew_33 : decode cX5_joinCrew 33 = .ok (.imul, 1) := dk_at bX5_joinCrew_0 19 rfl
theorem dX5_joinCrew_34 : decode cX5_joinCrew 34 = .ok (.iload_n 3, 1) := dk_at bX5_joinCrew_0 20 rfl
theorem dX5_joinCrew_35 : decode cX5_joinCrew 35 = .ok (.iadd, 1) := dk_at bX5_joinCrew_0 21 rfl
theorem dX5_joinCrew_36 : decode cX5_joinCrew 36 = .ok (.iaload, 1) := dk_at bX5_joinCrew_0 22 rfl
theorem dX5_joinCrew_37 : decode cX5_joinCrew 37 = .ok (.istore 4, 2) := dk_at bX5_joinCrew_0 23 rfl
theorem dX5_joinCrew_39 : decode cX5_joinCrew 39 = .ok (.iload 4, 2) := dk_at bX5_joinCrew_0 24 rfl
theorem dX5_joinCrew_41 : decode cX5_joinCrew 41 = .ok (.iconst (-1), 1) := dk_at bX5_joinCrew_0 25 rfl
theorem dX5_joinCrew_42 : decode cX5_joinCrew 42 = .ok (.if_icmp .eq 61, 3) := dk_at bX5_joinCrew_0 26 rfl
theorem dX5_joinCrew_45 : decode cX5_joinCrew 45 = .ok (.aload_n 0, 1) := dk_at bX5_joinCrew_0 27 rfl
theorem dX5_joinCrew_46 : decode cX5_joinCrew 46 = .ok (.getfield 9, 3) := dk_at bX5_joinCrew_0 28 rfl
theorem dX5_joinCrew_49 : decode cX5_joinCrew 49 = .ok (.iload_n 2, 1) := dk_at bX5_joinCrew_0 29 rfl
theorem dX5_joinCrew_50 : decode cX5_joinCrew 50 = .ok (.iload_n 3, 1) := dk_at bX5_joinCrew_0 30 rfl
theorem dX5_joinCrew_51 : decode cX5_joinCrew 51 = .ok (.ixor, 1) := dk_at bX5_joinCrew_0 31 rfl
theorem dX5_joinCrew_52 : decode cX5_joinCrew 52 = .ok (.laload, 1) := dk_at bX5_joinCrew_0 32 rfl
theorem dX5_joinCrew_53 : decode cX5_joinCrew 53 = .ok (.ldc2_w 46, 3) := dk_at bX5_joinCrew_0 33 rfl
theorem dX5_joinCrew_56 : decode cX5_joinCrew 56 = .ok (.lcmp, 1) := dk_at bX5_joinCrew_0 34 rfl
theorem dX5_joinCrew_57 : decode cX5_joinCrew 57 = .ok (.ifCond .ge 46, 3) := dk_at bX5_joinCrew_0 35 rfl
theorem dX5_joinCrew_60 : decode cX5_joinCrew 60 = .ok (.aload_n 0, 1) := dk_at bX5_joinCrew_0 36 rfl
theorem dX5_joinCrew_61 : decode cX5_joinCrew 61 = .ok (.getfield 9, 3) := dk_at bX5_joinCrew_0 37 rfl
theorem dX5_joinCrew_64 : decode cX5_joinCrew 64 = .ok (.iload_n 2, 1) := dk_at bX5_joinCrew_0 38 rfl
theorem dX5_joinCrew_65 : decode cX5_joinCrew 65 = .ok (.iload_n 3, 1) := dk_at bX5_joinCrew_0 39 rfl
theorem bX5_joinCrew_66 : dk cX5_joinCrew [(66, .ixor, 1), (67, .laload, 1), (68, .iload 4, 2), (70, .i2l, 1), (71, .ldc2_w 78, 3), (74, .lmul, 1), (75, .ladd, 1), (76, .iload_n 1, 1), (77, .i2l, 1), (78, .iload_n 3, 1), (79, .invokestatic 80, 3), (82, .lmul, 1), (83, .ladd, 1), (84, .lstore 5, 2), (86, .aload_n 0, 1), (87, .getfield 9, 3), (90, .iload_n 2, 1), (91, .aload_n 0, 1), (92, .getfield 9, 3), (95, .iload_n 2, 1), (96, .laload, 1), (97, .lload 5, 2), (99, .invokestatic 84, 3), (102, .lastore, 1), (103, .iload_n 3, 1), (104, .iconst 1, 1), (105, .isub, 1), (106, .iload_n 2, 1), (107, .iand, 1), (108, .istore_n 3, 1), (109, .goto (-91), 3), (112, .iinc 2 (-1), 3), (115, .goto (-103), 3), (118, .return_, 1)] = true := by decide +kernel
theorem dX5_joinCrew_66 : decode cX5_joinCrew 66 = .ok (.ixor, 1) := dk_at bX5_joinCrew_66 0 rfl
theorem dX5_joinCrew_67 : decode cX5_joinCrew 67 = .ok (.laload, 1) := dk_at bX5_joinCrew_66 1 rfl
theorem dX5_joinCrew_68 : decode cX5_joinCrew 68 = .ok (.iload 4, 2) := dk_at bX5_joinCrew_66 2 rfl
theorem dX5_joinCrew_70 : decode cX5_joinCrew 70 = .ok (.i2l, 1) := dk_at bX5_joinCrew_66 3 rfl
theorem dX5_joinCrew_71 : decode cX5_joinCrew 71 = .ok (.ldc2_w 78, 3) := dk_at bX5_joinCrew_66 4 rfl
theorem dX5_joinCrew_74 : decode cX5_joinCrew 74 = .ok (.lmul, 1) := dk_at bX5_joinCrew_66 5 rfl
theorem dX5_joinCrew_75 : decode cX5_joinCrew 75 = .ok (.ladd, 1) := dk_at bX5_joinCrew_66 6 rfl
theorem dX5_joinCrew_76 : decode cX5_joinCrew 76 = .ok (.iload_n 1, 1) := dk_at bX5_joinCrew_66 7 rfl
theorem dX5_joinCrew_77 : decode cX5_joinCrew 77 = .ok (.i2l, 1) := dk_at bX5_joinCrew_66 8 rfl
theorem dX5_joinCrew_78 : decode cX5_joinCrew 78 = .ok (.iload_n 3, 1) := dk_at bX5_joinCrew_66 9 rfl
theorem dX5_joinCrew_79 : decode cX5_joinCrew 79 = .ok (.invokestatic 80, 3) := dk_at bX5_joinCrew_66 10 rfl
theorem dX5_joinCrew_82 : decode cX5_joinCrew 82 = .ok (.lmul, 1) := dk_at bX5_joinCrew_66 11 rfl
theorem dX5_joinCrew_83 : decode cX5_joinCrew 83 = .ok (.ladd, 1) := dk_at bX5_joinCrew_66 12 rfl
theorem dX5_joinCrew_84 : decode cX5_joinCrew 84 = .ok (.lstore 5, 2) := dk_at bX5_joinCrew_66 13 rfl
theorem dX5_joinCrew_86 : decode cX5_joinCrew 86 = .ok (.aload_n 0, 1) := dk_at bX5_joinCrew_66 14 rfl
theorem dX5_joinCrew_87 : decode cX5_joinCrew 87 = .ok (.getfield 9, 3) := dk_at bX5_joinCrew_66 15 rfl
theorem dX5_joinCrew_90 : decode cX5_joinCrew 90 = .ok (.iload_n 2, 1) := dk_at bX5_joinCrew_66 16 rfl
theorem dX5_joinCrew_91 : decode cX5_joinCrew 91 = .ok (.aload_n 0, 1) := dk_at bX5_joinCrew_66 17 rfl
theorem dX5_joinCrew_92 : decode cX5_joinCrew 92 = .ok (.getfield 9, 3) := dk_at bX5_joinCrew_66 18 rfl
theorem dX5_joinCrew_95 : decode cX5_joinCrew 95 = .ok (.iload_n 2, 1) := dk_at bX5_joinCrew_66 19 rfl
theorem dX5_joinCrew_96 : decode cX5_joinCrew 96 = .ok (.laload, 1) := dk_at bX5_joinCrew_66 20 rfl
theorem dX5_joinCrew_97 : decode cX5_joinCrew 97 = .ok (.lload 5, 2) := dk_at bX5_joinCrew_66 21 rfl
theorem dX5_joinCrew_99 : decode cX5_joinCrew 99 = .ok (.invokestatic 84, 3) := dk_at bX5_joinCrew_66 22 rfl
theorem dX5_joinCrew_102 : decode cX5_joinCrew 102 = .ok (.lastore, 1) := dk_at bX5_joinCrew_66 23 rfl
theorem dX5_joinCrew_103 : decode cX5_joinCrew 103 = .ok (.iload_n 3, 1) := dk_at bX5_joinCrew_66 24 rfl
theorem dX5_joinCrew_104 : decode cX5_joinCrew 104 = .ok (.iconst 1, 1) := dk_at bX5_joinCrew_66 25 rfl
theorem dX5_joinCrew_105 : decode cX5_joinCrew 105 = .ok (.isub, 1) := dk_at bX5_joinCrew_66 26 rfl
theorem dX5_joinCrew_106 : decode cX5_joinCrew 106 = .ok (.iload_n 2, 1) := dk_at bX5_joinCrew_66 27 rfl
theorem dX5_joinCrew_107 : decode cX5_joinCrew 107 = .ok (.iand, 1) := dk_at bX5_joinCrew_66 28 rfl
theorem dX5_joinCrew_108 : decode cX5_joinCrew 108 = .ok (.istore_n 3, 1) := dk_at bX5_joinCrew_66 29 rfl
theorem dX5_joinCrew_109 : decode cX5_joinCrew 109 = .ok (.goto (-91), 3) := dk_at bX5_joinCrew_66 30 rfl
theorem dX5_joinCrew_112 : decode cX5_joinCrew 112 = .ok (.iinc 2 (-1), 3) := dk_at bX5_joinCrew_66 31 rfl
theorem dX5_joinCrew_115 : decode cX5_joinCrew 115 = .ok (.goto (-103), 3) := dk_at bX5_joinCrew_66 32 rfl
theorem dX5_joinCrew_118 : decode cX5_joinCrew 118 = .ok (.return_, 1) := dk_at bX5_joinCrew_66 33 rfl
set_option maxRecDepth 20000 in
theorem ggX5_choose_J6_bitCount_0f7a4 : GoodIn wsX5_choose wsJ6_bitCount_0f7a4 := goodIn_r _ [16, 17, 18, 19] rfl (by decide +kernel)
set_option maxRecDepth 20000 in
theorem gX5_choose_J6_bitCount_0f7a4 : GoodIn wsX5_choose (va_wsS RX5 90 yJ6_bitCount_0f7a4 wsJ6_bitCount_0f7a4) := goodIn_app (goodIn_r _ [13, 14, 15] rfl (by decide +kernel)) ggX5_choose_J6_bitCount_0f7a4
set_option maxRecDepth 20000 in
theorem ggX5_choose_X5_weightOf : GoodIn wsX5_choose wsX5_weightOf := goodIn_r _ [23] rfl (by decide +kernel)
set_option maxRecDepth 20000 in
theorem gX5_choose_X5_weightOf : GoodIn wsX5_choose (va_wsS RX5 80 yX5_weightOf wsX5_weightOf) := goodIn_app (goodIn_r _ [20, 21, 22] rfl (by decide +kernel)) ggX5_choose_X5_weightOf
set_option maxRecDepth 20000 in
theorem ggX5_choose_X5_readRow : GoodIn wsX5_choose wsX5_readRow := goodIn_r _ [27, 28, 29, 30, 31, 32, 33, 34, 35, 36, 37] rfl (by decide +kernel)
set_option maxRecDepth 20000 in
theorem gX5_choose_X5_readRow : GoodIn wsX5_choose (wsV RX5 98 RX5 yX5_readRow wsX5_readRow) := goodIn_app (goodIn_r _ [24, 25, 26, 22] rfl (by decide +kernel)) ggX5_choose_X5_readRow
theorem bX5_choose_0 : dk cX5_choose [(0, .iconst 1, 1), (1, .aload_n 0, 1), (2, .getfield 33, 3), (5, .getfield 72, 3), (8, .ishl, 1), (9, .iconst 1, 1), (10, .isub, 1), (11, .istore_n 1, 1), (12, .ldc2_w 46, 3), (15, .lstore_n 2, 1), (16, .aload_n 0, 1), (17, .iconst 0, 1), (18, .putfield 26, 3), (21, .iconst 0, 1), (22, .istore 4, 2), (24, .iload 4, 2), (26, .iload_n 1, 1), (27, .if_icmp .gt 87, 3), (30, .iload 4, 2), (32, .invokestatic 90, 3), (35, .istore 5, 2), (37, .aload_n 0, 1), (38, .getfield 9, 3), (41, .iload 4, 2), (43, .laload, 1), (44, .ldc2_w 46, 3), (47, .lcmp, 1), (48, .ifCond .ge 60, 3), (51, .iload 5, 2), (53, .aload_n 0, 1), (54, .getfield 26, 3), (57, .if_icmp .lt 51, 3), (60, .aload_n 0, 1), (61, .getfield 9, 3), (64, .iload 4, 2), (66, .laload, 1), (67, .ldc2_w 96, 3), (70, .iload_n 1, 1), (71, .iload 4, 2), (73, .ixor, 1)] = true := by decide +kernel
theorem dX5_choose_0 : decode cX5_choose 0 = .ok (.iconst 1, 1) := dk_at bX5_choose_0 0 rfl
theorem dX5_choose_1 : decode cX5_choose 1 = .ok (.aload_n 0, 1) := dk_at bX5_choose_0 1 rfl
theorem dX5_choose_2 : decode cX5_choose 2 = .ok (.getfield 33, 3) := dk_at bX5_choose_0 2 rfl
theorem dX5_choose_5 : decode cX5_choose 5 = .ok (.getfield 72, 3) := dk_at bX5_choose_0 3 rfl
theorem dX5_choose_8 : decode cX5_choose 8 = .ok (.ishl, 1) := dk_at bX5_choose_0 4 rfl
theorem dX5_choose_9 : decode cX5_choose 9 = .ok (.iconst 1, 1) := dk_at bX5_choose_0 5 rfl
theorem dX5_choose_10 : decode cX5_choose 10 = .ok (.isub, 1) := dk_at bX5_choose_0 6 rfl
theorem dX5_choose_11 : decode cX5_choose 11 = .ok (.istore_n 1, 1) := dk_at bX5_choose_0 7 rfl
theorem dX5_choose_12 : decode cX5_choose 12 = .ok (.ldc2_w 46, 3) := dk_at bX5_choose_0 8 rfl
theorem dX5_choose_15 : decode cX5_choose 15 = .ok (.lstore_n 2, 1) := dk_at bX5_choose_0 9 rfl
theorem dX5_choose_16 : decode cX5_choose 16 = .ok (.aload_n 0, 1) := dk_at bX5_choose_0 10 rfl
theorem dX5_choose_17 : decode cX5_choose 17 = .ok (.iconst 0, 1) := dk_at bX5_choose_0 11 rfl
theorem dX5_choose_18 : decode cX5_choose 18 = .ok (.putfield 26, 3) := dk_at bX5_choose_0 12 rfl
theorem dX5_choose_21 : decode cX5_choose 21 = .ok (.iconst 0, 1) := dk_at bX5_choose_0 13 rfl
theorem dX5_choose_22 : decode cX5_choose 22 = .ok (.istore 4, 2) := dk_at bX5_choose_0 14 rfl
theorem dX5_choose_24 : decode cX5_choose 24 = .ok (.iload 4, 2) := dk_at bX5_choose_0 15 rfl
theorem dX5_choose_26 : decode cX5_choose 26 = .ok (.iload_n 1, 1) := dk_at bX5_choose_0 16 rfl
theorem dX5_choose_27 : decode cX5_choose 27 = .ok (.if_icmp .gt 87, 3) := dk_at bX5_choose_0 17 rfl
theorem dX5_choose_30 : decode cX5_choose 30 = .ok (.iload 4, 2) := dk_at bX5_choose_0 18 rfl
theorem dX5_choose_32 : decode cX5_choose 32 = .ok (.invokestatic 90, 3) := dk_at bX5_choose_0 19 rfl
theorem dX5_choose_35 : decode cX5_choose 35 = .ok (.istore 5, 2) := dk_at bX5_choose_0 20 rfl
theorem dX5_choose_37 : decode cX5_choose 37 = .ok (.aload_n 0, 1) := dk_at bX5_choose_0 21 rfl
theorem dX5_choose_38 : decode cX5_choose 38 = .ok (.getfield 9, 3) := dk_at bX5_choose_0 22 rfl
theorem dX5_choose_41 : decode cX5_choose 41 = .ok (.iload 4, 2) := dk_at bX5_choose_0 23 rfl
theorem dX5_choose_43 : decode cX5_choose 43 = .ok (.laload, 1) := dk_at bX5_choose_0 24 rfl
theorem dX5_choose_44 : decode cX5_choose 44 = .ok (.ldc2_w 46, 3) := dk_at bX5_choose_0 25 rfl
theorem dX5_choose_47 : decode cX5_choose 47 = .ok (.lcmp, 1) := dk_at bX5_choose_0 26 rfl
theorem dX5_choose_48 : decode cX5_choose 48 = .ok (.ifCond .ge 60, 3) := dk_at bX5_choose_0 27 rfl
theorem dX5_choose_51 : decode cX5_choose 51 = .ok (.iload 5, 2) := dk_at bX5_choose_0 28 rfl
theorem dX5_choose_53 : decode cX5_choose 53 = .ok (.aload_n 0, 1) := dk_at bX5_choose_0 29 rfl
theorem dX5_choose_54 : decode cX5_choose 54 = .ok (.getfield 26, 3) := dk_at bX5_choose_0 30 rfl
theorem dX5_choose_57 : decode cX5_choose 57 = .ok (.if_icmp .lt 51, 3) := dk_at bX5_choose_0 31 rfl
theorem dX5_choose_60 : decode cX5_choose 60 = .ok (.aload_n 0, 1) := dk_at bX5_choose_0 32 rfl
theorem dX5_choose_61 : decode cX5_choose 61 = .ok (.getfield 9, 3) := dk_at bX5_choose_0 33 rfl
theorem dX5_choose_64 : decode cX5_choose 64 = .ok (.iload 4, 2) := dk_at bX5_choose_0 34 rfl
theorem dX5_choose_66 : decode cX5_choose 66 = .ok (.laload, 1) := dk_at bX5_choose_0 35 rfl
theorem dX5_choose_67 : decode cX5_choose 67 = .ok (.ldc2_w 96, 3) := dk_at bX5_choose_0 36 rfl
theorem dX5_choose_70 : decode cX5_choose 70 = .ok (.iload_n 1, 1) := dk_at bX5_choose_0 37 rfl
theorem dX5_choose_71 : decode cX5_choose 71 = .ok (.iload 4, 2) := dk_at bX5_choose_0 38 rfl
theorem dX5_choose_73 : decode cX5_choose 73 = .ok (.ixor, 1) := dk_at bX5_choose_0 39 rfl
theorem bX5_choose_74 : dk cX5_choose [(74, .invokestatic 80, 3), (77, .lmul, 1), (78, .ladd, 1), (79, .lstore 6, 2), (81, .iload 5, 2), (83, .aload_n 0, 1), (84, .getfield 26, 3), (87, .if_icmp .le 8, 3), (90, .lload 6, 2), (92, .goto 9, 3), (95, .lload_n 2, 1), (96, .lload 6, 2), (98, .invokestatic 84, 3), (101, .lstore_n 2, 1), (102, .aload_n 0, 1), (103, .iload 5, 2), (105, .putfield 26, 3), (108, .iinc 4 1, 3), (111, .goto (-87), 3), (114, .aload_n 0, 1), (115, .lload_n 2, 1), (116, .ldc2_w 78, 3), (119, .ldiv, 1), (120, .l2i, 1), (121, .putfield 30, 3), (124, .aload_n 0, 1), (125, .lload_n 2, 1), (126, .ldc2_w 78, 3), (129, .lrem, 1), (130, .l2i, 1), (131, .invokevirtual 98, 3), (134, .return_, 1)] = true := by decide +kernel
theorem dX5_choose_74 : decode cX5_choose 74 = .ok (.invokestatic 80, 3) := dk_at bX5_choose_74 0 rfl
theorem dX5_choose_77 : decode cX5_choose 77 = .ok (.lmul, 1) := dk_at bX5_choose_74 1 rfl
theorem dX5_choose_78 : decode cX5_choose 78 = .ok (.ladd, 1) := dk_at bX5_choose_74 2 rfl
theorem dX5_choose_79 : decode cX5_choose 79 = .ok (.lstore 6, 2) := dk_at bX5_choose_74 3 rfl
theorem dX5_choose_81 : decode cX5_choose 81 = .ok (.iload 5, 2) := dk_at bX5_choose_74 4 rfl
theorem dX5_choose_83 : decode cX5_choose 83 = .ok (.aload_n 0, 1) := dk_at bX5_choose_74 5 rfl
theorem dX5_choose_84 : decode cX5_choose 84 = .ok (.getfield 26, 3) := dk_at bX5_choose_74 6 rfl
theorem dX5_choose_87 : decode cX5_choose 87 = .ok (.if_icmp .le 8, 3) := dk_at bX5_choose_74 7 rfl
theorem dX5_choose_90 : decode cX5_choose 90 = .ok (.lload 6, 2) := dk_at bX5_choose_74 8 rfl
theorem dX5_choose_92 : decode cX5_choose 92 = .ok (.goto 9, 3) := dk_at bX5_choose_74 9 rfl
theorem dX5_choose_95 : decode cX5_choose 95 = .ok (.lload_n 2, 1) := dk_at bX5_choose_74 10 rfl
theorem dX5_choose_96 : decode cX5_choose 96 = .ok (.lload 6, 2) := dk_at bX5_choose_74 11 rfl
theorem dX5_choose_98 : decode cX5_choose 98 = .ok (.invokestatic 84, 3) := dk_at bX5_choose_74 12 rfl
theorem dX5_choose_101 : decode cX5_choose 101 = .ok (.lstore_n 2, 1) := dk_at bX5_choose_74 13 rfl
theorem dX5_choose_102 : decode cX5_choose 102 = .ok (.aload_n 0, 1) := dk_at bX5_choose_74 14 rfl
theorem dX5_choose_103 : decode cX5_choose 103 = .ok (.iload 5, 2) := dk_at bX5_choose_74 15 rfl
theorem dX5_choose_105 : decode cX5_choose 105 = .ok (.putfield 26, 3) := dk_at bX5_choose_74 16 rfl
theorem dX5_choose_108 : decode cX5_choose 108 = .ok (.iinc 4 1, 3) := dk_at bX5_choose_74 17 rfl
theorem dX5_choose_111 : decode cX5_choose 111 = .ok (.goto (-87), 3) := dk_at bX5_choose_74 18 rfl
theorem dX5_choose_114 : decode cX5_choose 114 = .ok (.aload_n 0, 1) := dk_at bX5_choose_74 19 rfl
theorem dX5_choose_115 : decode cX5_choose 115 = .ok (.lload_n 2, 1) := dk_at bX5_choose_74 20 rfl
theorem dX5_choose_116 : decode cX5_choose 116 = .ok (.ldc2_w 78, 3) := dk_at bX5_choose_74 21 rfl
theorem dX5_choose_119 : decode cX5_choose 119 = .ok (.ldiv, 1) := dk_at bX5_choose_74 22 rfl
theorem dX5_choose_120 : decode cX5_choose 120 = .ok (.l2i, 1) := dk_at bX5_choose_74 23 rfl
theorem dX5_choose_121 : decode cX5_choose 121 = .ok (.putfield 30, 3) := dk_at bX5_choose_74 24 rfl
theorem dX5_choose_124 : decode cX5_choose 124 = .ok (.aload_n 0, 1) := dk_at bX5_choose_74 25 rfl
theorem dX5_choose_125 : decode cX5_choose 125 = .ok (.lload_n 2, 1) := dk_at bX5_choose_74 26 rfl
theorem dX5_choose_126 : decode cX5_choose 126 = .ok (.ldc2_w 78, 3) := dk_at bX5_choose_74 27 rfl
theorem dX5_choose_129 : decode cX5_choose 129 = .ok (.lrem, 1) := dk_at bX5_choose_74 28 rfl
theorem dX5_choose_130 : decode cX5_choose 130 = .ok (.l2i, 1) := dk_at bX5_choose_74 29 rfl
theorem dX5_choose_131 : decode cX5_choose 131 = .ok (.invokevirtual 98, 3) := dk_at bX5_choose_74 30 rfl
theorem dX5_choose_134 : decode cX5_choose 134 = .ok (.return_, 1) := dk_at bX5_choose_74 31 rfl
theorem bX5_readRow_0 : dk cX5_readRow [(0, .iconst 0, 1), (1, .istore_n 2, 1), (2, .iload_n 2, 1), (3, .bipush 7, 2), (5, .if_icmp .ge 42, 3), (8, .iload_n 1, 1), (9, .getstatic 101, 3), (12, .iload_n 2, 1), (13, .iaload, 1), (14, .idiv, 1), (15, .iconst 5, 1), (16, .irem, 1), (17, .istore_n 3, 1), (18, .aload_n 0, 1), (19, .getfield 15, 3), (22, .iload_n 2, 1), (23, .iload_n 3, 1), (24, .iconst 4, 1), (25, .if_icmp .ne 7, 3), (28, .iconst (-1), 1), (29, .goto 4, 3), (32, .iload_n 3, 1), (33, .iastore, 1), (34, .aload_n 0, 1), (35, .getfield 19, 3), (38, .iload_n 2, 1), (39, .iconst (-1), 1), (40, .iastore, 1), (41, .iinc 2 1, 3), (44, .goto (-42), 3), (47, .return_, 1)] = true := by decide +kernel
theorem dX5_readRow_0 : decode cX5_readRow 0 = .ok (.iconst 0, 1) := dk_at bX5_readRow_0 0 rfl
theorem dX5_readRow_1 : decode cX5_readRow 1 = .ok (.istore_n 2, 1) := dk_at bX5_readRow_0 1 rfl
theorem dX5_readRow_2 : decode cX5_readRow 2 = .ok (.iload_n 2, 1) := dk_at bX5_readRow_0 2 rfl
theorem dX5_readRow_3 : decode cX5_readRow 3 = .ok (.bipush 7, 2) := dk_at bX5_readRow_0 3 rfl
theorem dX5_readRow_5 : decode cX5_readRow 5 = .ok (.if_icmp .ge 42, 3) := dk_at bX5_readRow_0 4 rfl
theorem dX5_readRow_8 : decode cX5_readRow 8 = .ok (.iload_n 1, 1) := dk_at bX5_readRow_0 5 rfl
theorem dX5_readRow_9 : decode cX5_readRow 9 = .ok (.getstatic 101, 3) := dk_at bX5_readRow_0 6 rfl
theorem dX5_readRow_12 : decode cX5_readRow 12 = .ok (.iload_n 2, 1) := dk_at bX5_readRow_0 7 rfl
theorem dX5_readRow_13 : decode cX5_readRow 13 = .ok (.iaload, 1) := dk_at bX5_readRow_0 8 rfl
theorem dX5_readRow_14 : decode cX5_readRow 14 = .ok (.idiv, 1) := dk_at bX5_readRow_0 9 rfl
theorem dX5_readRow_15 : decode cX5_readRow 15 = .ok (.iconst 5, 1) := dk_at bX5_readRow_0 10 rfl
theorem dX5_readRow_16 : decode cX5_readRow 16 = .ok (.irem, 1) := dk_at bX5_readRow_0 11 rfl
theorem dX5_readRow_17 : decode cX5_readRow 17 = .ok (.istore_n 3, 1) := dk_at bX5_readRow_0 12 rfl
theorem dX5_readRow_18 : decode cX5_readRow 18 = .ok (.aload_n 0, 1) := dk_at bX5_readRow_0 13 rfl
theorem dX5_readRow_19 : decode cX5_readRow 19 = .ok (.getfield 15, 3) := dk_at bX5_readRow_0 14 rfl
theorem dX5_readRow_22 : decode cX5_readRow 22 = .ok (.iload_n 2, 1) := dk_at bX5_readRow_0 15 rfl
theorem dX5_readRow_23 : decode cX5_readRow 23 = .ok (.iload_n 3, 1) := dk_at bX5_readRow_0 16 rfl
theorem dX5_readRow_24 : decode cX5_readRow 24 = .ok (.iconst 4, 1) := dk_at bX5_readRow_0 17 rfl
theorem dX5_readRow_25 : decode cX5_readRow 25 = .ok (.if_icmp .ne 7, 3) := dk_at bX5_readRow_0 18 rfl
theorem dX5_readRow_28 : decode cX5_readRow 28 = .ok (.iconst (-1), 1) := dk_at bX5_readRow_0 19 rfl
theorem dX5_readRow_29 : decode cX5_readRow 29 = .ok (.goto 4, 3) := dk_at bX5_readRow_0 20 rfl
theorem dX5_readRow_32 : decode cX5_readRow 32 = .ok (.iload_n 3, 1) := dk_at bX5_readRow_0 21 rfl
theorem dX5_readRow_33 : decode cX5_readRow 33 = .ok (.iastore, 1) := dk_at bX5_readRow_0 22 rfl
theorem dX5_readRow_34 : decode cX5_readRow 34 = .ok (.aload_n 0, 1) := dk_at bX5_readRow_0 23 rfl
theorem dX5_readRow_35 : decode cX5_readRow 35 = .ok (.getfield 19, 3) := dk_at bX5_readRow_0 24 rfl
theorem dX5_readRow_38 : decode cX5_readRow 38 = .ok (.iload_n 2, 1) := dk_at bX5_readRow_0 25 rfl
theorem dX5_readRow_39 : decode cX5_readRow 39 = .ok (.iconst (-1), 1) := dk_at bX5_readRow_0 26 rfl
theorem dX5_readRow_40 : decode cX5_readRow 40 = .ok (.iastore, 1) := dk_at bX5_readRow_0 27 rfl
theorem dX5_readRow_41 : decode cX5_readRow 41 = .ok (.iinc 2 1, 3) := dk_at bX5_readRow_0 28 rfl
theorem dX5_readRow_44 : decode cX5_readRow 44 = .ok (.goto (-42), 3) := dk_at bX5_readRow_0 29 rfl
theorem dX5_readRow_47 : decode cX5_readRow 47 = .ok (.return_, 1) := dk_at bX5_readRow_0 30 rfl
set_option maxRecDepth 20000 in
theorem ggX5_setDays_X2_startOf : GoodIn wsX5_setDays wsX2_startOf := goodIn_r _ [15, 16, 17, 18, 19, 20, 21, 22, 23, 24, 25, 14, 26, 27, 28, 29, 30, 39, 40, 41, 42, 43, 44, 45, 46, 47] rfl (by decide +kernel)
set_option maxRecDepth 20000 in
theorem gX5_setDays_X2_startOf : GoodIn wsX5_setDays (wsV RX5 109 RX2 yX2_startOf wsX2_startOf) := goodIn_app (goodIn_r _ [11, 12, 13, 14] rfl (by decide +kernel)) ggX5_setDays_X2_startOf
theorem bX5_setDays_0 : dk cX5_setDays [(0, .iconst 0, 1), (1, .istore_n 2, 1), (2, .iconst 0, 1), (3, .istore_n 3, 1), (4, .iload_n 3, 1), (5, .aload_n 0, 1), (6, .getfield 33, 3), (9, .getfield 72, 3), (12, .if_icmp .ge 35, 3), (15, .iload_n 3, 1), (16, .bipush 7, 2), (18, .if_icmp .ge 29, 3), (21, .iload_n 2, 1), (22, .aload_n 0, 1), (23, .getfield 15, 3), (26, .iload_n 3, 1), (27, .iaload, 1), (28, .iload_n 1, 1), (29, .if_icmp .ne 9, 3), (32, .iconst 1, 1), (33, .iload_n 3, 1), (34, .ishl, 1), (35, .goto 4, 3), (38, .iconst 0, 1), (39, .ior, 1), (40, .istore_n 2, 1), (41, .iinc 3 1, 3), (44, .goto (-40), 3), (47, .iload_n 2, 1), (48, .ifCond .ne 4, 3), (51, .return_, 1), (52, .aload_n 0, 1), (53, .getfield 42, 3), (56, .getfield 104, 3), (59, .iload_n 1, 1), (60, .sipush 128, 3), (63, .imul, 1), (64, .iload_n 2, 1), (65, .iadd, 1), (66, .iaload, 1)] = true := by decide +kernel
theorem dX5_setDays_0 : decode cX5_setDays 0 = .ok (.iconst 0, 1) := dk_at bX5_setDays_0 0 rfl
theorem dX5_setDays_1 : decode cX5_setDays 1 = .ok (.istore_n 2, 1) := dk_at bX5_setDays_0 1 rfl
theorem dX5_setDays_2 : decode cX5_setDays 2 = .ok (.iconst 0, 1) := dk_at bX5_setDays_0 2 rfl
theorem dX5_setDays_3 : decode cX5_setDays 3 = .ok (.istore_n 3, 1) := dk_at bX5_setDays_0 3 rfl
theorem dX5_setDays_4 : decode cX5_setDays 4 = .ok (.iload_n 3, 1) := dk_at bX5_setDays_0 4 rfl
theorem dX5_setDays_5 : decode cX5_setDays 5 = .ok (.aload_n 0, 1) := dk_at bX5_setDays_0 5 rfl
theorem dX5_setDays_6 : decode cX5_setDays 6 = .ok (.getfield 33, 3) := dk_at bX5_setDays_0 6 rfl
theorem dX5_setDays_9 : decode cX5_setDays 9 = .ok (.getfield 72, 3) := dk_at bX5_setDays_0 7 rfl
theorem dX5_setDays_12 : decode cX5_setDays 12 = .ok (.if_icmp .ge 35, 3) := dk_at bX5_setDays_0 8 rfl
theorem dX5_setDays_15 : decode cX5_setDays 15 = .ok (.iload_n 3, 1) := dk_at bX5_setDays_0 9 rfl
theorem dX5_setDays_16 : decode cX5_setDays 16 = .ok (.bipush 7, 2) := dk_at bX5_setDays_0 10 rfl
theorem dX5_setDays_18 : decode cX5_setDays 18 = .ok (.if_icmp .ge 29, 3) := dk_at bX5_setDays_0 11 rfl
theorem dX5_setDays_21 : decode cX5_setDays 21 = .ok (.iload_n 2, 1) := dk_at bX5_setDays_0 12 rfl
theorem dX5_setDays_22 : decode cX5_setDays 22 = .ok (.aload_n 0, 1) := dk_at bX5_setDays_0 13 rfl
theorem dX5_setDays_23 : decode cX5_setDays 23 = .ok (.getfield 15, 3) := dk_at bX5_setDays_0 14 rfl
theorem dX5_setDays_26 : decode cX5_setDays 26 = .ok (.iload_n 3, 1) := dk_at bX5_setDays_0 15 rfl
theorem dX5_setDays_27 : decode cX5_setDays 27 = .ok (.iaload, 1) := dk_at bX5_setDays_0 16 rfl
theorem dX5_setDays_28 : decode cX5_setDays 28 = .ok (.iload_n 1, 1) := dk_at bX5_setDays_0 17 rfl
theorem dX5_setDays_29 : decode cX5_setDays 29 = .ok (.if_icmp .ne 9, 3) := dk_at bX5_setDays_0 18 rfl
theorem dX5_setDays_32 : decode cX5_setDays 32 = .ok (.iconst 1, 1) := dk_at bX5_setDays_0 19 rfl
theorem dX5_setDays_33 : decode cX5_setDays 33 = .ok (.iload_n 3, 1) := dk_at bX5_setDays_0 20 rfl
theorem dX5_setDays_34 : decode cX5_setDays 34 = .ok (.ishl, 1) := dk_at bX5_setDays_0 21 rfl
theorem dX5_setDays_35 : decode cX5_setDays 35 = .ok (.goto 4, 3) := dk_at bX5_setDays_0 22 rfl
theorem dX5_setDays_38 : decode cX5_setDays 38 = .ok (.iconst 0, 1) := dk_at bX5_setDays_0 23 rfl
theorem dX5_setDays_39 : decode cX5_setDays 39 = .ok (.ior, 1) := dk_at bX5_setDays_0 24 rfl
theorem dX5_setDays_40 : decode cX5_setDays 40 = .ok (.istore_n 2, 1) := dk_at bX5_setDays_0 25 rfl
theorem dX5_setDays_41 : decode cX5_setDays 41 = .ok (.iinc 3 1, 3) := dk_at bX5_setDays_0 26 rfl
theorem dX5_setDays_44 : decode cX5_setDays 44 = .ok (.goto (-40), 3) := dk_at bX5_setDays_0 27 rfl
theorem dX5_setDays_47 : decode cX5_setDays 47 = .ok (.iload_n 2, 1) := dk_at bX5_setDays_0 28 rfl
theorem dX5_setDays_48 : decode cX5_setDays 48 = .ok (.ifCond .ne 4, 3) := dk_at bX5_setDays_0 29 rfl
theorem dX5_setDays_51 : decode cX5_setDays 51 = .ok (.return_, 1) := dk_at bX5_setDays_0 30 rfl
theorem dX5_setDays_52 : decode cX5_setDays 52 = .ok (.aload_n 0, 1) := dk_at bX5_setDays_0 31 rfl
theorem dX5_setDays_53 : decode cX5_setDays 53 = .ok (.getfield 42, 3) := dk_at bX5_setDays_0 32 rfl
theorem dX5_setDays_56 : decode cX5_setDays 56 = .ok (.getfield 104, 3) := dk_at bX5_setDays_0 33 rfl
theorem dX5_setDays_59 : decode cX5_setDays 59 = .ok (.iload_n 1, 1) := dk_at bX5_setDays_0 34 rfl
theorem dX5_setDays_60 : decode cX5_setDays 60 = .ok (.sipush 128, 3) := dk_at bX5_setDays_0 35 rfl
theorem dX5_setDays_63 : decode cX5_setDays 63 = .ok (.imul, 1) := dk_at bX5_setDays_0 36 rfl
theorem dX5_setDays_64 : decode cX5_setDays 64 = .ok (.iload_n 2, 1) := dk_at bX5_setDays_0 37 rfl
theorem dX5_setDays_65 : decode cX5_setDays 65 = .ok (.iadd, 1) := dk_at bX5_setDays_0 38 rfl
theorem dX5_setDays_66 : decode cX5_setDays 66 = .ok (.iaload, 1) := dk_at bX5_setDays_0 39 rfl
theorem bX5_setDays_67 : dk cX5_setDays [(67, .istore_n 3, 1), (68, .aload_n 0, 1), (69, .getfield 33, 3), (72, .getfield 54, 3), (75, .iload_n 1, 1), (76, .iaload, 1), (77, .istore 4, 2), (79, .aload_n 0, 1), (80, .getfield 33, 3), (83, .getfield 106, 3), (86, .iload_n 1, 1), (87, .iaload, 1), (88, .istore 5, 2), (90, .bipush 18, 2), (92, .istore 6, 2), (94, .iload 6, 2), (96, .ifCond .lt 77, 3), (99, .iload_n 3, 1), (100, .iload 6, 2), (102, .ishr, 1), (103, .bipush 7, 2), (105, .iand, 1), (106, .iconst 1, 1), (107, .isub, 1), (108, .istore 7, 2), (110, .iload 7, 2), (112, .ifCond .lt 55, 3), (115, .aload_n 0, 1), (116, .getfield 19, 3), (119, .iload 7, 2), (121, .aload_n 0, 1), (122, .getfield 33, 3), (125, .iload 7, 2), (127, .iload 4, 2), (129, .iload 5, 2), (131, .invokevirtual 109, 3), (134, .iastore, 1), (135, .aload_n 0, 1), (136, .getfield 19, 3), (139, .iload 7, 2)] = true := by decide +kernel
theorem dX5_setDays_67 : decode cX5_setDays 67 = .ok (.istore_n 3, 1) := dk_at bX5_setDays_67 0 rfl
theorem dX5_setDays_68 : decode cX5_setDays 68 = .ok (.aload_n 0, 1) := dk_at bX5_setDays_67 1 rfl
theorem dX5_setDays_69 : decode cX5_setDays 69 = .ok (.getfield 33, 3) := dk_at bX5_setDays_67 2 rfl
theorem dX5_setDays_72 : decode cX5_setDays 72 = .ok (.getfield 54, 3) := dk_at bX5_setDays_67 3 rfl
theorem dX5_setDays_75 : decode cX5_setDays 75 = .ok (.iload_n 1, 1) := dk_at bX5_setDays_67 4 rfl
theorem dX5_setDays_76 : decode cX5_setDays 76 = .ok (.iaload, 1) := dk_at bX5_setDays_67 5 rfl
theorem dX5_setDays_77 : decode cX5_setDays 77 = .ok (.istore 4, 2) := dk_at bX5_setDays_67 6 rfl
theorem dX5_setDays_79 : decode cX5_setDays 79 = .ok (.aload_n 0, 1) := dk_at bX5_setDays_67 7 rfl
theorem dX5_setDays_80 : decode cX5_setDays 80 = .ok (.getfield 33, 3) := dk_at bX5_setDays_67 8 rfl
theorem dX5_setDays_83 : decode cX5_setDays 83 = .ok (.getfield 106, 3) := dk_at bX5_setDays_67 9 rfl
theorem dX5_setDays_86 : decode cX5_setDays 86 = .ok (.iload_n 1, 1) := dk_at bX5_setDays_67 10 rfl
theorem dX5_setDays_87 : decode cX5_setDays 87 = .ok (.iaload, 1) := dk_at bX5_setDays_67 11 rfl
theorem dX5_setDays_88 : decode cX5_setDays 88 = .ok (.istore 5, 2) := dk_at bX5_setDays_67 12 rfl
theorem dX5_setDays_90 : decode cX5_setDays 90 = .ok (.bipush 18, 2) := dk_at bX5_setDays_67 13 rfl
theorem dX5_setDays_92 : decode cX5_setDays 92 = .ok (.istore 6, 2) := dk_at bX5_setDays_67 14 rfl
theorem dX5_setDays_94 : decode cX5_setDays 94 = .ok (.iload 6, 2) := dk_at bX5_setDays_67 15 rfl
theorem dX5_setDays_96 : decode cX5_setDays 96 = .ok (.ifCond .lt 77, 3) := dk_at bX5_setDays_67 16 rfl
theorem dX5_setDays_99 : decode cX5_setDays 99 = .ok (.iload_n 3, 1) := dk_at bX5_setDays_67 17 rfl
theorem dX5_setDays_100 : decode cX5_setDays 100 = .ok (.iload 6, 2) := dk_at bX5_setDays_67 18 rfl
theorem dX5_setDays_102 : decode cX5_setDays 102 = .ok (.ishr, 1) := dk_at bX5_setDays_67 19 rfl
theorem dX5_setDays_103 : decode cX5_setDays 103 = .ok (.bipush 7, 2) := dk_at bX5_setDays_67 20 rfl
theorem dX5_setDays_105 : decode cX5_setDays 105 = .ok (.iand, 1) := dk_at bX5_setDays_67 21 rfl
theorem dX5_setDays_106 : decode cX5_setDays 106 = .ok (.iconst 1, 1) := dk_at bX5_setDays_67 22 rfl
theorem dX5_setDays_107 : decode cX5_setDays 107 = .ok (.isub, 1) := dk_at bX5_setDays_67 23 rfl
theorem dX5_setDays_108 : decode cX5_setDays 108 = .ok (.istore 7, 2) := dk_at bX5_setDays_67 24 rfl
theorem dX5_setDays_110 : decode cX5_setDays 110 = .ok (.iload 7, 2) := dk_at bX5_setDays_67 25 rfl
theorem dX5_setDays_112 : decode cX5_setDays 112 = .ok (.ifCond .lt 55, 3) := dk_at bX5_setDays_67 26 rfl
theorem dX5_setDays_115 : decode cX5_setDays 115 = .ok (.aload_n 0, 1) := dk_at bX5_setDays_67 27 rfl
theorem dX5_setDays_116 : decode cX5_setDays 116 = .ok (.getfield 19, 3) := dk_at bX5_setDays_67 28 rfl
theorem dX5_setDays_119 : decode cX5_setDays 119 = .ok (.iload 7, 2) := dk_at bX5_setDays_67 29 rfl
theorem dX5_setDays_121 : decode cX5_setDays 121 = .ok (.aload_n 0, 1) := dk_at bX5_setDays_67 30 rfl
theorem dX5_setDays_122 : decode cX5_setDays 122 = .ok (.getfield 33, 3) := dk_at bX5_setDays_67 31 rfl
theorem dX5_setDays_125 : decode cX5_setDays 125 = .ok (.iload 7, 2) := dk_at bX5_setDays_67 32 rfl
theorem dX5_setDays_127 : decode cX5_setDays 127 = .ok (.iload 4, 2) := dk_at bX5_setDays_67 33 rfl
theorem dX5_setDays_129 : decode cX5_setDays 129 = .ok (.iload 5, 2) := dk_at bX5_setDays_67 34 rfl
theorem dX5_setDays_131 : decode cX5_setDays 131 = .ok (.invokevirtual 109, 3) := dk_at bX5_setDays_67 35 rfl
theorem dX5_setDays_134 : decode cX5_setDays 134 = .ok (.iastore, 1) := dk_at bX5_setDays_67 36 rfl
theorem dX5_setDays_135 : decode cX5_setDays 135 = .ok (.aload_n 0, 1) := dk_at bX5_setDays_67 37 rfl
theorem dX5_setDays_136 : decode cX5_setDays 136 = .ok (.getfield 19, 3) := dk_at bX5_setDays_67 38 rfl
theorem dX5_setDays_139 : decode cX5_setDays 139 = .ok (.iload 7, 2) := dk_at bX5_setDays_67 39 rfl
theorem bX5_setDays_141 : dk cX5_setDays [(141, .iaload, 1), (142, .aload_n 0, 1), (143, .getfield 33, 3), (146, .getfield 113, 3), (149, .iload 7, 2), (151, .iaload, 1), (152, .iadd, 1), (153, .istore 5, 2), (155, .aload_n 0, 1), (156, .getfield 33, 3), (159, .getfield 116, 3), (162, .iload 7, 2), (164, .iaload, 1), (165, .istore 4, 2), (167, .iinc 6 (-3), 3), (170, .goto (-76), 3), (173, .return_, 1)] = true := by decide +kernel
theorem dX5_setDays_141 : decode cX5_setDays 141 = .ok (.iaload, 1) := dk_at bX5_setDays_141 0 rfl
theorem dX5_setDays_142 : decode cX5_setDays 142 = .ok (.aload_n 0, 1) := dk_at bX5_setDays_141 1 rfl
theorem dX5_setDays_143 : decode cX5_setDays 143 = .ok (.getfield 33, 3) := dk_at bX5_setDays_141 2 rfl
theorem dX5_setDays_146 : decode cX5_setDays 146 = .ok (.getfield 113, 3) := dk_at bX5_setDays_141 3 rfl
theorem dX5_setDays_149 : decode cX5_setDays 149 = .ok (.iload 7, 2) := dk_at bX5_setDays_141 4 rfl
theorem dX5_setDays_151 : decode cX5_setDays 151 = .ok (.iaload, 1) := dk_at bX5_setDays_141 5 rfl
theorem dX5_setDays_152 : decode cX5_setDays 152 = .ok (.iadd, 1) := dk_at bX5_setDays_141 6 rfl
theorem dX5_setDays_153 : decode cX5_setDays 153 = .ok (.istore 5, 2) := dk_at bX5_setDays_141 7 rfl
theorem dX5_setDays_155 : decode cX5_setDays 155 = .ok (.aload_n 0, 1) := dk_at bX5_setDays_141 8 rfl
theorem dX5_setDays_156 : decode cX5_setDays 156 = .ok (.getfield 33, 3) := dk_at bX5_setDays_141 9 rfl
theorem dX5_setDays_159 : decode cX5_setDays 159 = .ok (.getfield 116, 3) := dk_at bX5_setDays_141 10 rfl
theorem dX5_setDays_162 : decode cX5_setDays 162 = .ok (.iload 7, 2) := dk_at bX5_setDays_141 11 rfl
theorem dX5_setDays_164 : decode cX5_setDays 164 = .ok (.iaload, 1) := dk_at bX5_setDays_141 12 rfl
theorem dX5_setDays_165 : decode cX5_setDays 165 = .ok (.istore 4, 2) := dk_at bX5_setDays_141 13 rfl
theorem dX5_setDays_167 : decode cX5_setDays 167 = .ok (.iinc 6 (-3), 3) := dk_at bX5_setDays_141 14 rfl
theorem dX5_setDays_170 : decode cX5_setDays 170 = .ok (.goto (-76), 3) := dk_at bX5_setDays_141 15 rfl
theorem dX5_setDays_173 : decode cX5_setDays 173 = .ok (.return_, 1) := dk_at bX5_setDays_141 16 rfl
theorem bX5_weightOf_0 : dk cX5_weightOf [(0, .lconst 0, 1), (1, .lstore_n 1, 1), (2, .iconst 0, 1), (3, .istore_n 3, 1), (4, .iload_n 3, 1), (5, .bipush 7, 2), (7, .if_icmp .ge 24, 3), (10, .lload_n 1, 1), (11, .iload_n 0, 1), (12, .iload_n 3, 1), (13, .ishr, 1), (14, .iconst 1, 1), (15, .iand, 1), (16, .getstatic 101, 3), (19, .iload_n 3, 1), (20, .iaload, 1), (21, .imul, 1), (22, .i2l, 1), (23, .ladd, 1), (24, .lstore_n 1, 1), (25, .iinc 3 1, 3), (28, .goto (-24), 3), (31, .lload_n 1, 1), (32, .lreturn, 1)] = true := by decide +kernel
theorem dX5_weightOf_0 : decode cX5_weightOf 0 = .ok (.lconst 0, 1) := dk_at bX5_weightOf_0 0 rfl
theorem dX5_weightOf_1 : decode cX5_weightOf 1 = .ok (.lstore_n 1, 1) := dk_at bX5_weightOf_0 1 rfl
theorem dX5_weightOf_2 : decode cX5_weightOf 2 = .ok (.iconst 0, 1) := dk_at bX5_weightOf_0 2 rfl
theorem dX5_weightOf_3 : decode cX5_weightOf 3 = .ok (.istore_n 3, 1) := dk_at bX5_weightOf_0 3 rfl
theorem dX5_weightOf_4 : decode cX5_weightOf 4 = .ok (.iload_n 3, 1) := dk_at bX5_weightOf_0 4 rfl
theorem dX5_weightOf_5 : decode cX5_weightOf 5 = .ok (.bipush 7, 2) := dk_at bX5_weightOf_0 5 rfl
theorem dX5_weightOf_7 : decode cX5_weightOf 7 = .ok (.if_icmp .ge 24, 3) := dk_at bX5_weightOf_0 6 rfl
theorem dX5_weightOf_10 : decode cX5_weightOf 10 = .ok (.lload_n 1, 1) := dk_at bX5_weightOf_0 7 rfl
theorem dX5_weightOf_11 : decode cX5_weightOf 11 = .ok (.iload_n 0, 1) := dk_at bX5_weightOf_0 8 rfl
theorem dX5_weightOf_12 : decode cX5_weightOf 12 = .ok (.iload_n 3, 1) := dk_at bX5_weightOf_0 9 rfl
theorem dX5_weightOf_13 : decode cX5_weightOf 13 = .ok (.ishr, 1) := dk_at bX5_weightOf_0 10 rfl
theorem dX5_weightOf_14 : decode cX5_weightOf 14 = .ok (.iconst 1, 1) := dk_at bX5_weightOf_0 11 rfl
theorem dX5_weightOf_15 : decode cX5_weightOf 15 = .ok (.iand, 1) := dk_at bX5_weightOf_0 12 rfl
theorem dX5_weightOf_16 : decode cX5_weightOf 16 = .ok (.getstatic 101, 3) := dk_at bX5_weightOf_0 13 rfl
theorem dX5_weightOf_19 : decode cX5_weightOf 19 = .ok (.iload_n 3, 1) := dk_at bX5_weightOf_0 14 rfl
theorem dX5_weightOf_20 : decode cX5_weightOf 20 = .ok (.iaload, 1) := dk_at bX5_weightOf_0 15 rfl
theorem dX5_weightOf_21 : decode cX5_weightOf 21 = .ok (.imul, 1) := dk_at bX5_weightOf_0 16 rfl
theorem dX5_weightOf_22 : decode cX5_weightOf 22 = .ok (.i2l, 1) := dk_at bX5_weightOf_0 17 rfl
theorem dX5_weightOf_23 : decode cX5_weightOf 23 = .ok (.ladd, 1) := dk_at bX5_weightOf_0 18 rfl
theorem dX5_weightOf_24 : decode cX5_weightOf 24 = .ok (.lstore_n 1, 1) := dk_at bX5_weightOf_0 19 rfl
theorem dX5_weightOf_25 : decode cX5_weightOf 25 = .ok (.iinc 3 1, 3) := dk_at bX5_weightOf_0 20 rfl
theorem dX5_weightOf_28 : decode cX5_weightOf 28 = .ok (.goto (-24), 3) := dk_at bX5_weightOf_0 21 rfl
theorem dX5_weightOf_31 : decode cX5_weightOf 31 = .ok (.lload_n 1, 1) := dk_at bX5_weightOf_0 22 rfl
theorem dX5_weightOf_32 : decode cX5_weightOf 32 = .ok (.lreturn, 1) := dk_at bX5_weightOf_0 23 rfl
set_option maxRecDepth 20000 in
theorem ggX6_init_X10_init : GoodIn wsX6_init wsX10_init := goodIn_r _ [12, 13, 2, 3, 14, 15, 16, 17, 18, 22, 23, 24, 25, 26] rfl (by decide +kernel)
set_option maxRecDepth 20000 in
theorem gX6_init_X10_init : GoodIn wsX6_init (wsX10_init) := ggX6_init_X10_init
theorem bX6_init_0 : dk cX6_init [(0, .aload_n 0, 1), (1, .invokespecial 3, 3), (4, .aload_n 0, 1), (5, .iconst 0, 1), (6, .putfield 9, 3), (9, .aload_n 0, 1), (10, .iconst (-1), 1), (11, .putfield 15, 3), (14, .aload_n 0, 1), (15, .new 18, 3), (18, .dup, 1), (19, .aload_n 1, 1), (20, .invokespecial 20, 3), (23, .putfield 23, 3), (26, .return_, 1)] = true := by decide +kernel
theorem dX6_init_0 : decode cX6_init 0 = .ok (.aload_n 0, 1) := dk_at bX6_init_0 0 rfl
theorem dX6_init_1 : decode cX6_init 1 = .ok (.invokespecial 3, 3) := dk_at bX6_init_0 1 rfl
theorem dX6_init_4 : decode cX6_init 4 = .ok (.aload_n 0, 1) := dk_at bX6_init_0 2 rfl
theorem dX6_init_5 : decode cX6_init 5 = .ok (.iconst 0, 1) := dk_at bX6_init_0 3 rfl
theorem dX6_init_6 : decode cX6_init 6 = .ok (.putfield 9, 3) := dk_at bX6_init_0 4 rfl
theorem dX6_init_9 : decode cX6_init 9 = .ok (.aload_n 0, 1) := dk_at bX6_init_0 5 rfl
theorem dX6_init_10 : decode cX6_init 10 = .ok (.iconst (-1), 1) := dk_at bX6_init_0 6 rfl
theorem dX6_init_11 : decode cX6_init 11 = .ok (.putfield 15, 3) := dk_at bX6_init_0 7 rfl
theorem dX6_init_14 : decode cX6_init 14 = .ok (.aload_n 0, 1) := dk_at bX6_init_0 8 rfl
theorem dX6_init_15 : decode cX6_init 15 = .ok (.new 18, 3) := dk_at bX6_init_0 9 rfl
theorem dX6_init_18 : decode cX6_init 18 = .ok (.dup, 1) := dk_at bX6_init_0 10 rfl
theorem dX6_init_19 : decode cX6_init 19 = .ok (.aload_n 1, 1) := dk_at bX6_init_0 11 rfl
theorem dX6_init_20 : decode cX6_init 20 = .ok (.invokespecial 20, 3) := dk_at bX6_init_0 12 rfl
theorem dX6_init_23 : decode cX6_init 23 = .ok (.putfield 23, 3) := dk_at bX6_init_0 13 rfl
theorem dX6_init_26 : decode cX6_init 26 = .ok (.return_, 1) := dk_at bX6_init_0 14 rfl
set_option maxRecDepth 20000 in
theorem ggX6_readRules_X6_beginText : GoodIn wsX6_readRules wsX6_beginText := goodIn_r _ [8, 9, 10, 2, 11, 12, 13, 14, 15, 16, 17, 18, 19, 20, 21, 22, 23, 24, 25, 26, 27, 28, 29, 30, 31, 32, 33, 34, 35, 36, 37, 38, 39, 40, 41, 42, 43, 44, 45, 46, 47, 48, 49, 50, 51, 52, 53, 152, 153, 154, 155, 156, 157, 158, 159, 160, 161] rfl (by decide +kernel)
set_option maxRecDepth 20000 in
theorem gX6_readRules_X6_beginText : GoodIn wsX6_readRules (wsV RX6 32 RX6 yX6_beginText wsX6_beginText) := goodIn_app (goodIn_r _ [4, 5, 6, 7] rfl (by decide +kernel)) ggX6_readRules_X6_beginText
set_option maxRecDepth 20000 in
theorem ggX6_readRules_X6_readRule : GoodIn wsX6_readRules wsX6_readRule := goodIn_r _ [57, 2, 1, 58, 59, 60, 14, 61, 23, 16, 21, 22, 62, 63, 64, 65, 66, 67, 68, 69, 70, 71, 72, 73, 29, 30, 31, 32, 33, 34, 35, 74, 75, 76, 77, 78, 79, 80, 81, 82, 83, 84, 85, 86, 87, 88, 89, 90, 91, 92, 93, 94, 95, 96, 97, 98, 99, 100, 101, 102, 103, 104, 105, 106, 107, 108, 109, 110, 111, 112, 113, 7, 114, 9, 115, 10, 116, 18, 19, 20, 24, 25, 26, 27, 28, 36, 37, 38, 39, 40, 41, 42, 43, 44, 45, 46, 47, 48, 49, 50, 51, 52, 53, 117, 118, 119, 120, 121, 122, 123, 124, 3, 125, 126, 127, 128, 129, 130, 131, 132, 133, 134, 135, 136, 137, 138, 139, 140, 141, 142, 143, 144, 145, 146, 152, 153, 154, 147, 148, 149, 150, 151, 155, 156, 157, 158, 159, 160, 161] rfl (by decide +kernel)
set_option maxRecDepth 20000 in
theorem gX6_readRules_X6_readRule : GoodIn wsX6_readRules (wsV RX6 38 RX6 yX6_readRule wsX6_readRule) := goodIn_app (goodIn_r _ [54, 55, 56, 7] rfl (by decide +kernel)) ggX6_readRules_X6_readRule
theorem bX6_readRules_0 : dk cX6_readRules [(0, .aload_n 1, 1), (1, .iconst 0, 1), (2, .putfield 27, 3), (5, .aload_n 0, 1), (6, .invokevirtual 32, 3), (9, .iconst 0, 1), (10, .istore_n 2, 1), (11, .iload_n 2, 1), (12, .sipush 800, 3), (15, .if_icmp .gt 29, 3), (18, .aload_n 0, 1), (19, .getfield 23, 3), (22, .getfield 35, 3), (25, .ifCond .eq 19, 3), (28, .aload_n 0, 1), (29, .aload_n 1, 1), (30, .invokevirtual 38, 3), (33, .ifCond .ne 5, 3), (36, .iconst 0, 1), (37, .ireturn, 1), (38, .iinc 2 1, 3), (41, .goto (-30), 3), (44, .iconst 1, 1), (45, .ireturn, 1)] = true := by decide +kernel
theorem dX6_readRules_0 : decode cX6_readRules 0 = .ok (.aload_n 1, 1) := dk_at bX6_readRules_0 0 rfl
theorem dX6_readRules_1 : decode cX6_readRules 1 = .ok (.iconst 0, 1) := dk_at bX6_readRules_0 1 rfl
theorem dX6_readRules_2 : decode cX6_readRules 2 = .ok (.putfield 27, 3) := dk_at bX6_readRules_0 2 rfl
theorem dX6_readRules_5 : decode cX6_readRules 5 = .ok (.aload_n 0, 1) := dk_at bX6_readRules_0 3 rfl
theorem dX6_readRules_6 : decode cX6_readRules 6 = .ok (.invokevirtual 32, 3) := dk_at bX6_readRules_0 4 rfl
theorem dX6_readRules_9 : decode cX6_readRules 9 = .ok (.iconst 0, 1) := dk_at bX6_readRules_0 5 rfl
theorem dX6_readRules_10 : decode cX6_readRules 10 = .ok (.istore_n 2, 1) := dk_at bX6_readRules_0 6 rfl
theorem dX6_readRules_11 : decode cX6_readRules 11 = .ok (.iload_n 2, 1) := dk_at bX6_readRules_0 7 rfl
theorem dX6_readRules_12 : decode cX6_readRules 12 = .ok (.sipush 800, 3) := dk_at bX6_readRules_0 8 rfl
theorem dX6_readRules_15 : decode cX6_readRules 15 = .ok (.if_icmp .gt 29, 3) := dk_at bX6_readRules_0 9 rfl
theorem dX6_readRules_18 : decode cX6_readRules 18 = .ok (.aload_n 0, 1) := dk_at bX6_readRules_0 10 rfl
theorem dX6_readRules_19 : decode cX6_readRules 19 = .ok (.getfield 23, 3) := dk_at bX6_readRules_0 11 rfl
theorem dX6_readRules_22 : decode cX6_readRules 22 = .ok (.getfield 35, 3) := dk_at bX6_readRules_0 12 rfl
theorem dX6_readRules_25 : decode cX6_readRules 25 = .ok (.ifCond .eq 19, 3) := dk_at bX6_readRules_0 13 rfl
theorem dX6_readRules_28 : decode cX6_readRules 28 = .ok (.aload_n 0, 1) := dk_at bX6_readRules_0 14 rfl
theorem dX6_readRules_29 : decode cX6_readRules 29 = .ok (.aload_n 1, 1) := dk_at bX6_readRules_0 15 rfl
theorem dX6_readRules_30 : decode cX6_readRules 30 = .ok (.invokevirtual 38, 3) := dk_at bX6_readRules_0 16 rfl
theorem dX6_readRules_33 : decode cX6_readRules 33 = .ok (.ifCond .ne 5, 3) := dk_at bX6_readRules_0 17 rfl
theorem dX6_readRules_36 : decode cX6_readRules 36 = .ok (.iconst 0, 1) := dk_at bX6_readRules_0 18 rfl
theorem dX6_readRules_37 : decode cX6_readRules 37 = .ok (.ireturn, 1) := dk_at bX6_readRules_0 19 rfl
theorem dX6_readRules_38 : decode cX6_readRules 38 = .ok (.iinc 2 1, 3) := dk_at bX6_readRules_0 20 rfl
theorem dX6_readRules_41 : decode cX6_readRules 41 = .ok (.goto (-30), 3) := dk_at bX6_readRules_0 21 rfl
theorem dX6_readRules_44 : decode cX6_readRules 44 = .ok (.iconst 1, 1) := dk_at bX6_readRules_0 22 rfl
theorem dX6_readRules_45 : decode cX6_readRules 45 = .ok (.ireturn, 1) := dk_at bX6_readRules_0 23 rfl
set_option maxRecDepth 20000 in
theorem ggX6_readCover_X1_clear : GoodIn wsX6_readCover wsX1_clear := goodIn_r _ [8, 9, 10, 11, 12, 167, 168, 169, 170, 171] rfl (by decide +kernel)
set_option maxRecDepth 20000 in
theorem gX6_readCover_X1_clear : GoodIn wsX6_readCover (wsV RX6 42 RX1 yX1_clear wsX1_clear) := goodIn_app (goodIn_r _ [4, 5, 6, 7] rfl (by decide +kernel)) ggX6_readCover_X1_clear
set_option maxRecDepth 20000 in
theorem ggX6_readCover_X6_beginText : GoodIn wsX6_readCover wsX6_beginText := goodIn_r _ [17, 18, 19, 1, 20, 21, 22, 23, 24, 25, 26, 27, 28, 29, 30, 31, 32, 33, 34, 35, 36, 37, 38, 39, 40, 41, 42, 43, 44, 45, 46, 47, 48, 49, 50, 51, 52, 53, 54, 55, 56, 57, 58, 59, 60, 61, 62, 159, 160, 161, 162, 163, 164, 165, 166, 172, 173] rfl (by decide +kernel)
set_option maxRecDepth 20000 in
theorem gX6_readCover_X6_beginText : GoodIn wsX6_readCover (wsV RX6 32 RX6 yX6_beginText wsX6_beginText) := goodIn_app (goodIn_r _ [13, 14, 15, 16] rfl (by decide +kernel)) ggX6_readCover_X6_beginText
set_option maxRecDepth 20000 in
theorem ggX6_readCover_X6_readLine : GoodIn wsX6_readCover wsX6_readLine := goodIn_r _ [66, 1, 67, 68, 69, 70, 71, 72, 23, 73, 32, 25, 30, 31, 74, 75, 76, 77, 78, 79, 80, 81, 82, 83, 84, 85, 38, 39, 40, 41, 42, 43, 44, 86, 87, 88, 89, 90, 91, 92, 93, 94, 95, 96, 97, 98, 99, 100, 101, 102, 103, 104, 105, 106, 107, 108, 109, 110, 111, 112, 113, 114, 115, 116, 117, 118, 119, 120, 121, 122, 123, 124, 125, 16, 126, 18, 127, 19, 128, 129, 130, 131, 132, 133, 27, 28, 29, 33, 34, 35, 36, 37, 45, 46, 47, 48, 49, 50, 51, 52, 53, 54, 55, 56, 57, 58, 59, 60, 61, 62, 134, 135, 136, 137, 138, 139, 140, 141, 2, 142, 143, 144, 145, 146, 147, 148, 149, 150, 159, 160, 161, 167, 168, 169, 170, 171, 162, 163, 164, 165, 166, 172, 173] rfl (by decide +kernel)
set_option maxRecDepth 20000 in
theorem gX6_readCover_X6_readLine : GoodIn wsX6_readCover (wsV RX6 47 RX6 yX6_readLine wsX6_readLine) := goodIn_app (goodIn_r _ [63, 64, 65, 16] rfl (by decide +kernel)) ggX6_readCover_X6_readLine
set_option maxRecDepth 20000 in
theorem ggX6_readCover_X6_takeStop : GoodIn wsX6_readCover wsX6_takeStop := goodIn_r _ [154, 1, 2, 123, 124, 125, 16, 126, 18, 127, 19, 133, 27, 28, 23, 29, 25, 30, 31, 32, 33, 34, 35, 36, 37, 38, 39, 40, 41, 42, 43, 44, 45, 46, 47, 48, 49, 50, 51, 52, 53, 54, 55, 56, 57, 58, 59, 60, 61, 62, 159, 160, 161, 162, 163, 164, 165, 166, 172, 173] rfl (by decide +kernel)
set_option maxRecDepth 20000 in
theorem gX6_readCover_X6_takeStop : GoodIn wsX6_readCover (wsV RX6 51 RX6 yX6_takeStop wsX6_takeStop) := goodIn_app (goodIn_r _ [151, 152, 153, 16] rfl (by decide +kernel)) ggX6_readCover_X6_takeStop
set_option maxRecDepth 20000 in
theorem ggX6_readCover_X1_fillUntold : GoodIn wsX6_readCover wsX1_fillUntold := goodIn_r _ [158, 10, 11, 167, 168, 169, 170, 171] rfl (by decide +kernel)
set_option maxRecDepth 20000 in
theorem gX6_readCover_X1_fillUntold : GoodIn wsX6_readCover (wsV RX6 58 RX1 yX1_fillUntold wsX1_fillUntold) := goodIn_app (goodIn_r _ [155, 156, 157, 7] rfl (by decide +kernel)) ggX6_readCover_X1_fillUntold
theorem bX6_readCover_0 : dk cX6_readCover [(0, .aload_n 1, 1), (1, .invokevirtual 42, 3), (4, .aload_n 0, 1), (5, .invokevirtual 32, 3), (8, .iconst 0, 1), (9, .istore_n 2, 1), (10, .iload_n 2, 1), (11, .sipush 800, 3), (14, .if_icmp .gt 46, 3), (17, .aload_n 0, 1), (18, .getfield 23, 3), (21, .getfield 35, 3), (24, .ifCond .eq 36, 3), (27, .aload_n 0, 1), (28, .aload_n 1, 1), (29, .invokevirtual 47, 3), (32, .ifCond .eq 10, 3), (35, .aload_n 0, 1), (36, .invokevirtual 51, 3), (39, .ifCond .ne 5, 3), (42, .iconst 0, 1), (43, .ireturn, 1), (44, .aload_n 1, 1), (45, .dup, 1), (46, .getfield 55, 3), (49, .iconst 1, 1), (50, .iadd, 1), (51, .putfield 55, 3), (54, .iinc 2 1, 3), (57, .goto (-47), 3), (60, .aload_n 1, 1), (61, .invokevirtual 58, 3), (64, .iconst 1, 1), (65, .ireturn, 1)] = true := by decide +kernel
theorem dX6_readCover_0 : decode cX6_readCover 0 = .ok (.aload_n 1, 1) := dk_at bX6_readCover_0 0 rfl
theorem dX6_readCover_1 : decode cX6_readCover 1 = .ok (.invokevirtual 42, 3) := dk_at bX6_readCover_0 1 rfl
theorem dX6_readCover_4 : decode cX6_readCover 4 = .ok (.aload_n 0, 1) := dk_at bX6_readCover_0 2 rfl
theorem dX6_readCover_5 : decode cX6_readCover 5 = .ok (.invokevirtual 32, 3) := dk_at bX6_readCover_0 3 rfl
theorem dX6_readCover_8 : decode cX6_readCover 8 = .ok (.iconst 0, 1) := dk_at bX6_readCover_0 4 rfl
theorem dX6_readCover_9 : decode cX6_readCover 9 = .ok (.istore_n 2, 1) := dk_at bX6_readCover_0 5 rfl
theorem dX6_readCover_10 : decode cX6_readCover 10 = .ok (.iload_n 2, 1) := dk_at bX6_readCover_0 6 rfl
theorem dX6_readCover_11 : decode cX6_readCover 11 = .ok (.sipush 800, 3) := dk_at bX6_readCover_0 7 rfl
theorem dX6_readCover_14 : decode cX6_readCover 14 = .ok (.if_icmp .gt 46, 3) := dk_at bX6_readCover_0 8 rfl
theorem dX6_readCover_17 : decode cX6_readCover 17 = .ok (.aload_n 0, 1) := dk_at bX6_readCover_0 9 rfl
theorem dX6_readCover_18 : decode cX6_readCover 18 = .ok (.getfield 23, 3) := dk_at bX6_readCover_0 10 rfl
theorem dX6_readCover_21 : decode cX6_readCover 21 = .ok (.getfield 35, 3) := dk_at bX6_readCover_0 11 rfl
theorem dX6_readCover_24 : decode cX6_readCover 24 = .ok (.ifCond .eq 36, 3) := dk_at bX6_readCover_0 12 rfl
theorem dX6_readCover_27 : decode cX6_readCover 27 = .ok (.aload_n 0, 1) := dk_at bX6_readCover_0 13 rfl
theorem dX6_readCover_28 : decode cX6_readCover 28 = .ok (.aload_n 1, 1) := dk_at bX6_readCover_0 14 rfl
theorem dX6_readCover_29 : decode cX6_readCover 29 = .ok (.invokevirtual 47, 3) := dk_at bX6_readCover_0 15 rfl
theorem dX6_readCover_32 : decode cX6_readCover 32 = .ok (.ifCond .eq 10, 3) := dk_at bX6_readCover_0 16 rfl
theorem dX6_readCover_35 : decode cX6_readCover 35 = .ok (.aload_n 0, 1) := dk_at bX6_readCover_0 17 rfl
theorem dX6_readCover_36 : decode cX6_readCover 36 = .ok (.invokevirtual 51, 3) := dk_at bX6_readCover_0 18 rfl
theorem dX6_readCover_39 : decode cX6_readCover 39 = .ok (.ifCond .ne 5, 3) := dk_at bX6_readCover_0 19 rfl
theorem dX6_readCover_42 : decode cX6_readCover 42 = .ok (.iconst 0, 1) := dk_at bX6_readCover_0 20 rfl
theorem dX6_readCover_43 : decode cX6_readCover 43 = .ok (.ireturn, 1) := dk_at bX6_readCover_0 21 rfl
theorem dX6_readCover_44 : decode cX6_readCover 44 = .ok (.aload_n 1, 1) := dk_at bX6_readCover_0 22 rfl
theorem dX6_readCover_45 : decode cX6_readCover 45 = .ok (.dup, 1) := dk_at bX6_readCover_0 23 rfl
theorem dX6_readCover_46 : decode cX6_readCover 46 = .ok (.getfield 55, 3) := dk_at bX6_readCover_0 24 rfl
theorem dX6_readCover_49 : decode cX6_readCover 49 = .ok (.iconst 1, 1) := dk_at bX6_readCover_0 25 rfl
theorem dX6_readCover_50 : decode cX6_readCover 50 = .ok (.iadd, 1) := dk_at bX6_readCover_0 26 rfl
theorem dX6_readCover_51 : decode cX6_readCover 51 = .ok (.putfield 55, 3) := dk_at bX6_readCover_0 27 rfl
theorem dX6_readCover_54 : decode cX6_readCover 54 = .ok (.iinc 2 1, 3) := dk_at bX6_readCover_0 28 rfl
theorem dX6_readCover_57 : decode cX6_readCover 57 = .ok (.goto (-47), 3) := dk_at bX6_readCover_0 29 rfl
theorem dX6_readCover_60 : decode cX6_readCover 60 = .ok (.aload_n 1, 1) := dk_at bX6_readCover_0 30 rfl
theorem dX6_readCover_61 : decode cX6_readCover 61 = .ok (.invokevirtual 58, 3) := dk_at bX6_readCover_0 31 rfl
theorem dX6_readCover_64 : decode cX6_readCover 64 = .ok (.iconst 1, 1) := dk_at bX6_readCover_0 32 rfl
theorem dX6_readCover_65 : decode cX6_readCover 65 = .ok (.ireturn, 1) := dk_at bX6_readCover_0 33 rfl
set_option maxRecDepth 20000 in
theorem ggX6_beginText_X10_restart : GoodIn wsX6_beginText wsX10_restart := goodIn_r _ [8, 9, 10, 11, 12, 7, 13, 14, 15, 16, 17, 18, 19, 20, 21, 22, 23, 24, 25, 26, 27, 28, 29, 30, 31, 32, 33, 34, 35, 36, 37, 38, 39, 40, 41, 42, 43, 44, 45, 46, 50, 51, 52, 53, 54, 55, 56] rfl (by decide +kernel)
set_option maxRecDepth 20000 in
theorem gX6_beginText_X10_restart : GoodIn wsX6_beginText (wsV RX6 61 RX10 yX10_restart wsX10_restart) := goodIn_app (goodIn_r _ [4, 5, 6, 7] rfl (by decide +kernel)) ggX6_beginText_X10_restart
theorem bX6_beginText_0 : dk cX6_beginText [(0, .aload_n 0, 1), (1, .iconst 0, 1), (2, .putfield 9, 3), (5, .aload_n 0, 1), (6, .iconst (-1), 1), (7, .putfield 15, 3), (10, .aload_n 0, 1), (11, .getfield 23, 3), (14, .invokevirtual 61, 3), (17, .return_, 1)] = true := by decide +kernel
theorem dX6_beginText_0 : decode cX6_beginText 0 = .ok (.aload_n 0, 1) := dk_at bX6_beginText_0 0 rfl
theorem dX6_beginText_1 : decode cX6_beginText 1 = .ok (.iconst 0, 1) := dk_at bX6_beginText_0 1 rfl
theorem dX6_beginText_2 : decode cX6_beginText 2 = .ok (.putfield 9, 3) := dk_at bX6_beginText_0 2 rfl
theorem dX6_beginText_5 : decode cX6_beginText 5 = .ok (.aload_n 0, 1) := dk_at bX6_beginText_0 3 rfl
theorem dX6_beginText_6 : decode cX6_beginText 6 = .ok (.iconst (-1), 1) := dk_at bX6_beginText_0 4 rfl
theorem dX6_beginText_7 : decode cX6_beginText 7 = .ok (.putfield 15, 3) := dk_at bX6_beginText_0 5 rfl
theorem dX6_beginText_10 : decode cX6_beginText 10 = .ok (.aload_n 0, 1) := dk_at bX6_beginText_0 6 rfl
theorem dX6_beginText_11 : decode cX6_beginText 11 = .ok (.getfield 23, 3) := dk_at bX6_beginText_0 7 rfl
theorem dX6_beginText_14 : decode cX6_beginText 14 = .ok (.invokevirtual 61, 3) := dk_at bX6_beginText_0 8 rfl
theorem dX6_beginText_17 : decode cX6_beginText 17 = .ok (.return_, 1) := dk_at bX6_beginText_0 9 rfl
set_option maxRecDepth 20000 in
theorem ggX6_readRule_X10_spells : GoodIn wsX6_readRule wsX10_spells := goodIn_r _ [7, 8, 9, 10, 11, 12, 13, 14, 15, 16, 17, 18, 19, 20, 21, 22, 23, 24, 25, 26, 27, 28, 29, 30, 31, 32, 33, 34, 35, 36, 37, 38, 39, 40, 41, 42, 43, 44, 45, 46, 47, 48, 49, 50, 51, 52, 53, 54, 55, 56, 57, 58, 59, 60, 61, 62, 63, 64, 65, 66, 67, 142, 143, 144, 145, 146, 147, 148] rfl (by decide +kernel)
set_option maxRecDepth 20000 in
theorem gX6_readRule_X10_spells : GoodIn wsX6_readRule (wsV RX6 66 RX10 yX10_spells wsX10_spells) := goodIn_app (goodIn_r _ [3, 4, 5, 6] rfl (by decide +kernel)) ggX6_readRule_X10_spells
set_option maxRecDepth 20000 in
theorem ggX6_readRule_X6_refuse : GoodIn wsX6_readRule wsX6_refuse := goodIn_r _ [72, 73, 1, 74, 75, 134, 135, 136, 142, 143, 144, 145, 146] rfl (by decide +kernel)
set_option maxRecDepth 20000 in
theorem gX6_readRule_X6_refuse : GoodIn wsX6_readRule (wsV RX6 70 RX6 yX6_refuse wsX6_refuse) := goodIn_app (goodIn_r _ [68, 69, 70, 71] rfl (by decide +kernel)) ggX6_readRule_X6_refuse
set_option maxRecDepth 20000 in
theorem ggX6_readRule_X10_advance : GoodIn wsX6_readRule wsX10_advance := goodIn_r _ [79, 9, 10, 11, 8, 80, 81, 82, 6, 83, 84, 24, 25, 26, 27, 28, 29, 30, 85, 86, 87, 88, 89, 90, 91, 92, 93, 94, 95, 96, 97, 98, 99, 100, 101, 102, 142, 143, 144, 145, 146, 147, 148] rfl (by decide +kernel)
set_option maxRecDepth 20000 in
theorem gX6_readRule_X10_advance : GoodIn wsX6_readRule (wsV RX6 74 RX10 yX10_advance wsX10_advance) := goodIn_app (goodIn_r _ [76, 77, 78, 6] rfl (by decide +kernel)) ggX6_readRule_X10_advance
set_option maxRecDepth 20000 in
theorem ggX6_readRule_X6_takeOneOf : GoodIn wsX6_readRule wsX6_takeOneOf := goodIn_r _ [106, 1, 3, 4, 5, 6, 7, 8, 9, 10, 11, 12, 13, 14, 15, 16, 17, 18, 19, 20, 21, 22, 23, 24, 25, 26, 27, 28, 29, 30, 31, 32, 33, 34, 35, 36, 37, 38, 39, 40, 41, 42, 43, 44, 45, 46, 47, 48, 49, 50, 51, 52, 53, 54, 55, 56, 57, 58, 59, 60, 61, 62, 63, 64, 65, 66, 67, 68, 69, 70, 71, 72, 73, 74, 75, 76, 77, 78, 79, 80, 81, 82, 83, 84, 85, 86, 87, 88, 89, 90, 91, 92, 93, 94, 95, 96, 97, 98, 99, 100, 101, 102, 134, 135, 136, 142, 143, 144, 145, 146, 147, 148] rfl (by decide +kernel)
set_option maxRecDepth 20000 in
theorem gX6_readRule_X6_takeOneOf : GoodIn wsX6_readRule (wsV RX6 85 RX6 yX6_takeOneOf wsX6_takeOneOf) := goodIn_app (goodIn_r _ [103, 104, 105, 71] rfl (by decide +kernel)) ggX6_readRule_X6_takeOneOf
set_option maxRecDepth 20000 in
theorem ggX6_readRule_X6_takeNumber : GoodIn wsX6_readRule wsX6_takeNumber := goodIn_r _ [110, 1, 111, 112, 68, 69, 70, 71, 72, 73, 74, 75, 76, 77, 78, 6, 79, 9, 10, 11, 8, 80, 81, 82, 83, 84, 24, 25, 26, 27, 28, 29, 30, 85, 86, 87, 88, 89, 90, 91, 92, 93, 94, 95, 96, 97, 98, 99, 100, 101, 102, 134, 135, 136, 142, 143, 144, 145, 146, 147, 148] rfl (by decide +kernel)
set_option maxRecDepth 20000 in
theorem gX6_readRule_X6_takeNumber : GoodIn wsX6_readRule (wsV RX6 95 RX6 yX6_takeNumber wsX6_takeNumber) := goodIn_app (goodIn_r _ [107, 108, 109, 71] rfl (by decide +kernel)) ggX6_readRule_X6_takeNumber
set_option maxRecDepth 20000 in
theorem ggX6_readRule_X6_takeWord : GoodIn wsX6_readRule wsX6_takeWord := goodIn_r _ [116, 1, 3, 4, 5, 6, 7, 8, 9, 10, 11, 12, 13, 14, 15, 16, 17, 18, 19, 20, 21, 22, 23, 24, 25, 26, 27, 28, 29, 30, 31, 32, 33, 34, 35, 36, 37, 38, 39, 40, 41, 42, 43, 44, 45, 46, 47, 48, 49, 50, 51, 52, 53, 54, 55, 56, 57, 58, 59, 60, 61, 62, 63, 64, 65, 66, 67, 68, 69, 70, 71, 72, 73, 74, 75, 76, 77, 78, 79, 80, 81, 82, 83, 84, 85, 86, 87, 88, 89, 90, 91, 92, 93, 94, 95, 96, 97, 98, 99, 100, 101, 102, 134, 135, 136, 142, 143, 144, 145, 146, 147, 148] rfl (by decide +kernel)
set_option maxRecDepth 20000 in
theorem gX6_readRule_X6_takeWord : GoodIn wsX6_readRule (wsV RX6 101 RX6 yX6_takeWord wsX6_takeWord) := goodIn_app (goodIn_r _ [113, 114, 115, 71] rfl (by decide +kernel)) ggX6_readRule_X6_takeWord
set_option maxRecDepth 20000 in
theorem ggX6_readRule_X6_takeStop : GoodIn wsX6_readRule wsX6_takeStop := goodIn_r _ [120, 1, 111, 68, 69, 70, 71, 72, 73, 74, 75, 76, 77, 78, 6, 79, 9, 10, 11, 8, 80, 81, 82, 83, 84, 24, 25, 26, 27, 28, 29, 30, 85, 86, 87, 88, 89, 90, 91, 92, 93, 94, 95, 96, 97, 98, 99, 100, 101, 102, 134, 135, 136, 142, 143, 144, 145, 146, 147, 148] rfl (by decide +kernel)
set_option maxRecDepth 20000 in
theorem gX6_readRule_X6_takeStop : GoodIn wsX6_readRule (wsV RX6 51 RX6 yX6_takeStop wsX6_takeStop) := goodIn_app (goodIn_r _ [117, 118, 119, 71] rfl (by decide +kernel)) ggX6_readRule_X6_takeStop
set_option maxRecDepth 20000 in
theorem ggX6_readRule_X7_add : GoodIn wsX6_readRule wsX7_add := goodIn_r _ [125, 126, 127, 128, 129, 130, 131, 132, 133, 137, 138, 139, 140, 141] rfl (by decide +kernel)
set_option maxRecDepth 20000 in
theorem gX6_readRule_X7_add : GoodIn wsX6_readRule (wsV RX6 110 RX7 yX7_add wsX7_add) := goodIn_app (goodIn_r _ [121, 122, 123, 124] rfl (by decide +kernel)) ggX6_readRule_X7_add
theorem bX6_readRule_0 : dk cX6_readRule [(0, .aload_n 0, 1), (1, .getfield 23, 3), (4, .ldc 64, 2), (6, .invokevirtual 66, 3), (9, .ifCond .ne 9, 3), (12, .aload_n 0, 1), (13, .iconst 1, 1), (14, .invokevirtual 70, 3), (17, .ireturn, 1), (18, .aload_n 1, 1), (19, .getfield 27, 3), (22, .bipush 12, 2), (24, .if_icmp .lt 9, 3), (27, .aload_n 0, 1), (28, .iconst 4, 1), (29, .invokevirtual 70, 3), (32, .ireturn, 1), (33, .aload_n 0, 1), (34, .getfield 23, 3), (37, .invokevirtual 74, 3), (40, .aload_n 0, 1), (41, .ldc 77, 2), (43, .ldc 79, 2), (45, .ldc 81, 2), (47, .ldc 83, 2), (49, .invokevirtual 85, 3), (52, .istore_n 2, 1), (53, .iload_n 2, 1), (54, .iconst (-1), 1), (55, .if_icmp .ne 7, 3), (58, .iconst (-1), 1), (59, .goto 15, 3), (62, .aload_n 0, 1), (63, .ldc 89, 2), (65, .ldc 91, 2), (67, .ldc 93, 2), (69, .ldc 93, 2), (71, .invokevirtual 85, 3), (74, .istore_n 3, 1), (75, .iload_n 3, 1)] = true := by decide +kernel
theorem dX6_readRule_0 : decode cX6_readRule 0 = .ok (.aload_n 0, 1) := dk_at bX6_readRule_0 0 rfl
theorem dX6_readRule_1 : decode cX6_readRule 1 = .ok (.getfield 23, 3) := dk_at bX6_readRule_0 1 rfl
theorem dX6_readRule_4 : decode cX6_readRule 4 = .ok (.ldc 64, 2) := dk_at bX6_readRule_0 2 rfl
theorem dX6_readRule_6 : decode cX6_readRule 6 = .ok (.invokevirtual 66, 3) := dk_at bX6_readRule_0 3 rfl
theorem dX6_readRule_9 : decode cX6_readRule 9 = .ok (.ifCond .ne 9, 3) := dk_at bX6_readRule_0 4 rfl
theorem dX6_readRule_12 : decode cX6_readRule 12 = .ok (.aload_n 0, 1) := dk_at bX6_readRule_0 5 rfl
theorem dX6_readRule_13 : decode cX6_readRule 13 = .ok (.iconst 1, 1) := dk_at bX6_readRule_0 6 rfl
theorem dX6_readRule_14 : decode cX6_readRule 14 = .ok (.invokevirtual 70, 3) := dk_at bX6_readRule_0 7 rfl
theorem dX6_readRule_17 : decode cX6_readRule 17 = .ok (.ireturn, 1) := dk_at bX6_readRule_0 8 rfl
theorem dX6_readRule_18 : decode cX6_readRule 18 = .ok (.aload_n 1, 1) := dk_at bX6_readRule_0 9 rfl
theorem dX6_readRule_19 : decode cX6_readRule 19 = .ok (.getfield 27, 3) := dk_at bX6_readRule_0 10 rfl
theorem dX6_readRule_22 : decode cX6_readRule 22 = .ok (.bipush 12, 2) := dk_at bX6_readRule_0 11 rfl
theorem dX6_readRule_24 : decode cX6_readRule 24 = .ok (.if_icmp .lt 9, 3) := dk_at bX6_readRule_0 12 rfl
theorem dX6_readRule_27 : decode cX6_readRule 27 = .ok (.aload_n 0, 1) := dk_at bX6_readRule_0 13 rfl
theorem dX6_readRule_28 : decode cX6_readRule 28 = .ok (.iconst 4, 1) := dk_at bX6_readRule_0 14 rfl
theorem dX6_readRule_29 : decode cX6_readRule 29 = .ok (.invokevirtual 70, 3) := dk_at bX6_readRule_0 15 rfl
theorem dX6_readRule_32 : decode cX6_readRule 32 = .ok (.ireturn, 1) := dk_at bX6_readRule_0 16 rfl
theorem dX6_readRule_33 : decode cX6_readRule 33 = .ok (.aload_n 0, 1) := dk_at bX6_readRule_0 17 rfl
theorem dX6_readRule_34 : decode cX6_readRule 34 = .ok (.getfield 23, 3) := dk_at bX6_readRule_0 18 rfl
theorem dX6_readRule_37 : decode cX6_readRule 37 = .ok (.invokevirtual 74, 3) := dk_at bX6_readRule_0 19 rfl
theorem dX6_readRule_40 : decode cX6_readRule 40 = .ok (.aload_n 0, 1) := dk_at bX6_readRule_0 20 rfl
theorem dX6_readRule_41 : decode cX6_readRule 41 = .ok (.ldc 77, 2) := dk_at bX6_readRule_0 21 rfl
theorem dX6_readRule_43 : decode cX6_readRule 43 = .ok (.ldc 79, 2) := dk_at bX6_readRule_0 22 rfl
theorem dX6_readRule_45 : decode cX6_readRule 45 = .ok (.ldc 81, 2) := dk_at bX6_readRule_0 23 rfl
theorem dX6_readRule_47 : decode cX6_readRule 47 = .ok (.ldc 83, 2) := dk_at bX6_readRule_0 24 rfl
theorem dX6_readRule_49 : decode cX6_readRule 49 = .ok (.invokevirtual 85, 3) := dk_at bX6_readRule_0 25 rfl
theorem dX6_readRule_52 : decode cX6_readRule 52 = .ok (.istore_n 2, 1) := dk_at bX6_readRule_0 26 rfl
theorem dX6_readRule_53 : decode cX6_readRule 53 = .ok (.iload_n 2, 1) := dk_at bX6_readRule_0 27 rfl
theorem dX6_readRule_54 : decode cX6_readRule 54 = .ok (.iconst (-1), 1) := dk_at bX6_readRule_0 28 rfl
theorem dX6_readRule_55 : decode cX6_readRule 55 = .ok (.if_icmp .ne 7, 3) := dk_at bX6_readRule_0 29 rfl
theorem dX6_readRule_58 : decode cX6_readRule 58 = .ok (.iconst (-1), 1) := dk_at bX6_readRule_0 30 rfl
theorem dX6_readRule_59 : decode cX6_readRule 59 = .ok (.goto 15, 3) := dk_at bX6_readRule_0 31 rfl
theorem dX6_readRule_62 : decode cX6_readRule 62 = .ok (.aload_n 0, 1) := dk_at bX6_readRule_0 32 rfl
theorem dX6_readRule_63 : decode cX6_readRule 63 = .ok (.ldc 89, 2) := dk_at bX6_readRule_0 33 rfl
theorem dX6_readRule_65 : decode cX6_readRule 65 = .ok (.ldc 91, 2) := dk_at bX6_readRule_0 34 rfl
theorem dX6_readRule_67 : decode cX6_readRule 67 = .ok (.ldc 93, 2) := dk_at bX6_readRule_0 35 rfl
theorem dX6_readRule_69 : decode cX6_readRule 69 = .ok (.ldc 93, 2) := dk_at bX6_readRule_0 36 rfl
theorem dX6_readRule_71 : decode cX6_readRule 71 = .ok (.invokevirtual 85, 3) := dk_at bX6_readRule_0 37 rfl
theorem dX6_readRule_74 : decode cX6_readRule 74 = .ok (.istore_n 3, 1) := dk_at bX6_readRule_0 38 rfl
theorem dX6_readRule_75 : decode cX6_readRule 75 = .ok (.iload_n 3, 1) := dk_at bX6_readRule_0 39 rfl
theorem bX6_readRule_76 : dk cX6_readRule [(76, .iconst (-1), 1), (77, .if_icmp .ne 7, 3), (80, .iconst (-1), 1), (81, .goto 10, 3), (84, .aload_n 0, 1), (85, .sipush 9999, 3), (88, .invokevirtual 95, 3), (91, .istore 4, 2), (93, .iload 4, 2), (95, .iconst (-1), 1), (96, .if_icmp .eq 12, 3), (99, .aload_n 0, 1), (100, .ldc 99, 2), (102, .invokevirtual 101, 3), (105, .ifCond .ne 5, 3), (108, .iconst 0, 1), (109, .ireturn, 1), (110, .aload_n 0, 1), (111, .ldc 104, 2), (113, .ldc 106, 2), (115, .ldc 108, 2), (117, .ldc 93, 2), (119, .invokevirtual 85, 3), (122, .istore 5, 2), (124, .iload 5, 2), (126, .iconst (-1), 1), (127, .if_icmp .eq 10, 3), (130, .aload_n 0, 1), (131, .invokevirtual 51, 3), (134, .ifCond .ne 5, 3), (137, .iconst 0, 1), (138, .ireturn, 1), (139, .aload_n 1, 1), (140, .iload_n 2, 1), (141, .iload_n 3, 1), (142, .ifCond .ne 7, 3), (145, .iconst 1, 1), (146, .goto 4, 3), (149, .iconst 0, 1), (150, .iload 4, 2)] = true := by decide +kernel
theorem dX6_readRule_76 : decode cX6_readRule 76 = .ok (.iconst (-1), 1) := dk_at bX6_readRule_76 0 rfl
theorem dX6_readRule_77 : decode cX6_readRule 77 = .ok (.if_icmp .ne 7, 3) := dk_at bX6_readRule_76 1 rfl
theorem dX6_readRule_80 : decode cX6_readRule 80 = .ok (.iconst (-1), 1) := dk_at bX6_readRule_76 2 rfl
theorem dX6_readRule_81 : decode cX6_readRule 81 = .ok (.goto 10, 3) := dk_at bX6_readRule_76 3 rfl
theorem dX6_readRule_84 : decode cX6_readRule 84 = .ok (.aload_n 0, 1) := dk_at bX6_readRule_76 4 rfl
theorem dX6_readRule_85 : decode cX6_readRule 85 = .ok (.sipush 9999, 3) := dk_at bX6_readRule_76 5 rfl
theorem dX6_readRule_88 : decode cX6_readRule 88 = .ok (.invokevirtual 95, 3) := dk_at bX6_readRule_76 6 rfl
theorem dX6_readRule_91 : decode cX6_readRule 91 = .ok (.istore 4, 2) := dk_at bX6_readRule_76 7 rfl
theorem dX6_readRule_93 : decode cX6_readRule 93 = .ok (.iload 4, 2) := dk_at bX6_readRule_76 8 rfl
theorem dX6_readRule_95 : decode cX6_readRule 95 = .ok (.iconst (-1), 1) := dk_at bX6_readRule_76 9 rfl
theorem dX6_readRule_96 : decode cX6_readRule 96 = .ok (.if_icmp .eq 12, 3) := dk_at bX6_readRule_76 10 rfl
theorem dX6_readRule_99 : decode cX6_readRule 99 = .ok (.aload_n 0, 1) := dk_at bX6_readRule_76 11 rfl
theorem dX6_readRule_100 : decode cX6_readRule 100 = .ok (.ldc 99, 2) := dk_at bX6_readRule_76 12 rfl
theorem dX6_readRule_102 : decode cX6_readRule 102 = .ok (.invokevirtual 101, 3) := dk_at bX6_readRule_76 13 rfl
theorem dX6_readRule_105 : decode cX6_readRule 105 = .ok (.ifCond .ne 5, 3) := dk_at bX6_readRule_76 14 rfl
theorem dX6_readRule_108 : decode cX6_readRule 108 = .ok (.iconst 0, 1) := dk_at bX6_readRule_76 15 rfl
theorem dX6_readRule_109 : decode cX6_readRule 109 = .ok (.ireturn, 1) := dk_at bX6_readRule_76 16 rfl
theorem dX6_readRule_110 : decode cX6_readRule 110 = .ok (.aload_n 0, 1) := dk_at bX6_readRule_76 17 rfl
theorem dX6_readRule_111 : decode cX6_readRule 111 = .ok (.ldc 104, 2) := dk_at bX6_readRule_76 18 rfl
theorem dX6_readRule_113 : decode cX6_readRule 113 = .ok (.ldc 106, 2) := dk_at bX6_readRule_76 19 rfl
theorem dX6_readRule_115 : decode cX6_readRule 115 = .ok (.ldc 108, 2) := dk_at bX6_readRule_76 20 rfl
theorem dX6_readRule_117 : decode cX6_readRule 117 = .ok (.ldc 93, 2) := dk_at bX6_readRule_76 21 rfl
theorem dX6_readRule_119 : decode cX6_readRule 119 = .ok (.invokevirtual 85, 3) := dk_at bX6_readRule_76 22 rfl
theorem dX6_readRule_122 : decode cX6_readRule 122 = .ok (.istore 5, 2) := dk_at bX6_readRule_76 23 rfl
theorem dX6_readRule_124 : decode cX6_readRule 124 = .ok (.iload 5, 2) := dk_at bX6_readRule_76 24 rfl
theorem dX6_readRule_126 : decode cX6_readRule 126 = .ok (.iconst (-1), 1) := dk_at bX6_readRule_76 25 rfl
theorem dX6_readRule_127 : decode cX6_readRule 127 = .ok (.if_icmp .eq 10, 3) := dk_at bX6_readRule_76 26 rfl
theorem dX6_readRule_130 : decode cX6_readRule 130 = .ok (.aload_n 0, 1) := dk_at bX6_readRule_76 27 rfl
theorem dX6_readRule_131 : decode cX6_readRule 131 = .ok (.invokevirtual 51, 3) := dk_at bX6_readRule_76 28 rfl
theorem dX6_readRule_134 : decode cX6_readRule 134 = .ok (.ifCond .ne 5, 3) := dk_at bX6_readRule_76 29 rfl
theorem dX6_readRule_137 : decode cX6_readRule 137 = .ok (.iconst 0, 1) := dk_at bX6_readRule_76 30 rfl
theorem dX6_readRule_138 : decode cX6_readRule 138 = .ok (.ireturn, 1) := dk_at bX6_readRule_76 31 rfl
theorem dX6_readRule_139 : decode cX6_readRule 139 = .ok (.aload_n 1, 1) := dk_at bX6_readRule_76 32 rfl
theorem dX6_readRule_140 : decode cX6_readRule 140 = .ok (.iload_n 2, 1) := dk_at bX6_readRule_76 33 rfl
theorem dX6_readRule_141 : decode cX6_readRule 141 = .ok (.iload_n 3, 1) := dk_at bX6_readRule_76 34 rfl
theorem dX6_readRule_142 : decode cX6_readRule 142 = .ok (.ifCond .ne 7, 3) := dk_at bX6_readRule_76 35 rfl
theorem dX6_readRule_145 : decode cX6_readRule 145 = .ok (.iconst 1, 1) := dk_at bX6_readRule_76 36 rfl
theorem dX6_readRule_146 : decode cX6_readRule 146 = .ok (.goto 4, 3) := dk_at bX6_readRule_76 37 rfl
theorem dX6_readRule_149 : decode cX6_readRule 149 = .ok (.iconst 0, 1) := dk_at bX6_readRule_76 38 rfl
theorem dX6_readRule_150 : decode cX6_readRule 150 = .ok (.iload 4, 2) := dk_at bX6_readRule_76 39 rfl
theorem bX6_readRule_152 : dk cX6_readRule [(152, .iload 5, 2), (154, .invokevirtual 110, 3), (157, .iconst 1, 1), (158, .ireturn, 1)] = true := by decide +kernel
theorem dX6_readRule_152 : decode cX6_readRule 152 = .ok (.iload 5, 2) := dk_at bX6_readRule_152 0 rfl
theorem dX6_readRule_154 : decode cX6_readRule 154 = .ok (.invokevirtual 110, 3) := dk_at bX6_readRule_152 1 rfl
theorem dX6_readRule_157 : decode cX6_readRule 157 = .ok (.iconst 1, 1) := dk_at bX6_readRule_152 2 rfl
theorem dX6_readRule_158 : decode cX6_readRule 158 = .ok (.ireturn, 1) := dk_at bX6_readRule_152 3 rfl
set_option maxRecDepth 20000 in
theorem ggX6_readLine_X10_spells : GoodIn wsX6_readLine wsX10_spells := goodIn_r _ [9, 10, 11, 12, 13, 14, 15, 16, 17, 18, 19, 20, 21, 22, 23, 24, 25, 26, 27, 28, 29, 30, 31, 32, 33, 34, 35, 36, 37, 38, 39, 40, 41, 42, 43, 44, 45, 46, 47, 48, 49, 50, 51, 52, 53, 54, 55, 56, 57, 58, 59, 60, 61, 62, 63, 64, 65, 66, 67, 68, 69, 136, 137, 138, 139, 140, 141, 142] rfl (by decide +kernel)
set_option maxRecDepth 20000 in
theorem gX6_readLine_X10_spells : GoodIn wsX6_readLine (wsV RX6 66 RX10 yX10_spells wsX10_spells) := goodIn_app (goodIn_r _ [5, 6, 7, 8] rfl (by decide +kernel)) ggX6_readLine_X10_spells
set_option maxRecDepth 20000 in
theorem ggX6_readLine_X6_refuse : GoodIn wsX6_readLine wsX6_refuse := goodIn_r _ [74, 75, 1, 76, 77, 128, 129, 130, 136, 137, 138, 139, 140] rfl (by decide +kernel)
set_option maxRecDepth 20000 in
theorem gX6_readLine_X6_refuse : GoodIn wsX6_readLine (wsV RX6 70 RX6 yX6_refuse wsX6_refuse) := goodIn_app (goodIn_r _ [70, 71, 72, 73] rfl (by decide +kernel)) ggX6_readLine_X6_refuse
set_option maxRecDepth 20000 in
theorem ggX6_readLine_X6_readBox : GoodIn wsX6_readLine wsX6_readBox := goodIn_r _ [81, 1, 2, 82, 83, 84, 85, 8, 86, 11, 12, 13, 10, 87, 88, 89, 90, 91, 26, 27, 28, 29, 30, 31, 32, 92, 93, 94, 95, 96, 97, 98, 99, 100, 101, 102, 103, 104, 105, 106, 107, 108, 109, 110, 111, 112, 73, 113, 5, 6, 7, 9, 14, 15, 16, 17, 18, 19, 20, 21, 22, 23, 24, 25, 33, 34, 35, 36, 37, 38, 39, 40, 41, 42, 43, 44, 45, 46, 47, 48, 49, 50, 51, 52, 53, 54, 55, 56, 57, 58, 59, 60, 61, 62, 63, 64, 65, 66, 67, 68, 69, 70, 71, 72, 74, 75, 76, 77, 114, 115, 116, 117, 118, 119, 128, 129, 130, 131, 132, 133, 134, 135, 136, 137, 138, 139, 140, 141, 142] rfl (by decide +kernel)
set_option maxRecDepth 20000 in
theorem gX6_readLine_X6_readBox : GoodIn wsX6_readLine (wsV RX6 119 RX6 yX6_readBox wsX6_readBox) := goodIn_app (goodIn_r _ [78, 79, 80, 73] rfl (by decide +kernel)) ggX6_readLine_X6_readBox
set_option maxRecDepth 20000 in
theorem ggX6_readLine_X6_readCrew : GoodIn wsX6_readLine wsX6_readCrew := goodIn_r _ [123, 1, 3, 83, 84, 85, 8, 86, 11, 12, 13, 10, 87, 88, 89, 90, 91, 26, 27, 28, 29, 30, 31, 32, 92, 93, 94, 95, 96, 97, 98, 99, 100, 101, 102, 103, 104, 105, 106, 107, 108, 109, 114, 115, 116, 73, 117, 118, 119, 70, 71, 72, 74, 75, 76, 77, 128, 129, 130, 131, 132, 133, 134, 135, 136, 137, 138, 139, 140, 141, 142] rfl (by decide +kernel)
set_option maxRecDepth 20000 in
theorem gX6_readLine_X6_readCrew : GoodIn wsX6_readLine (wsV RX6 127 RX6 yX6_readCrew wsX6_readCrew) := goodIn_app (goodIn_r _ [120, 121, 122, 73] rfl (by decide +kernel)) ggX6_readLine_X6_readCrew
set_option maxRecDepth 20000 in
theorem ggX6_readLine_X6_readForce : GoodIn wsX6_readLine wsX6_readForce := goodIn_r _ [127, 1, 4, 83, 84, 85, 8, 86, 11, 12, 13, 10, 87, 88, 89, 90, 91, 26, 27, 28, 29, 30, 31, 32, 92, 93, 94, 95, 96, 97, 98, 99, 100, 101, 102, 103, 104, 105, 106, 107, 108, 109, 114, 115, 116, 73, 117, 118, 119, 70, 71, 72, 74, 75, 76, 77, 128, 129, 130, 131, 132, 133, 134, 135, 136, 137, 138, 139, 140, 141, 142] rfl (by decide +kernel)
set_option maxRecDepth 20000 in
theorem gX6_readLine_X6_readForce : GoodIn wsX6_readLine (wsV RX6 133 RX6 yX6_readForce wsX6_readForce) := goodIn_app (goodIn_r _ [124, 125, 126, 73] rfl (by decide +kernel)) ggX6_readLine_X6_readForce
theorem bX6_readLine_0 : dk cX6_readLine [(0, .aload_n 0, 1), (1, .getfield 23, 3), (4, .ldc 114, 2), (6, .invokevirtual 66, 3), (9, .ifCond .eq 26, 3), (12, .aload_n 1, 1), (13, .getfield 116, 3), (16, .bipush 12, 2), (18, .if_icmp .lt 11, 3), (21, .aload_n 0, 1), (22, .iconst 4, 1), (23, .invokevirtual 70, 3), (26, .goto 8, 3), (29, .aload_n 0, 1), (30, .aload_n 1, 1), (31, .invokevirtual 119, 3), (34, .ireturn, 1), (35, .aload_n 0, 1), (36, .getfield 23, 3), (39, .ldc 122, 2), (41, .invokevirtual 66, 3), (44, .ifCond .eq 25, 3), (47, .aload_n 1, 1), (48, .getfield 124, 3), (51, .iconst (-1), 1), (52, .if_icmp .eq 11, 3), (55, .aload_n 0, 1), (56, .iconst 3, 1), (57, .invokevirtual 70, 3), (60, .goto 8, 3), (63, .aload_n 0, 1), (64, .aload_n 1, 1), (65, .invokevirtual 127, 3), (68, .ireturn, 1), (69, .aload_n 0, 1), (70, .getfield 23, 3), (73, .ldc 77, 2), (75, .invokevirtual 66, 3), (78, .ifCond .eq 25, 3), (81, .aload_n 1, 1)] = true := by decide +kernel
theorem dX6_readLine_0 : decode cX6_readLine 0 = .ok (.aload_n 0, 1) := dk_at bX6_readLine_0 0 rfl
theorem dX6_readLine_1 : decode cX6_readLine 1 = .ok (.getfield 23, 3) := dk_at bX6_readLine_0 1 rfl
theorem dX6_readLine_4 : decode cX6_readLine 4 = .ok (.ldc 114, 2) := dk_at bX6_readLine_0 2 rfl
theorem dX6_readLine_6 : decode cX6_readLine 6 = .ok (.invokevirtual 66, 3) := dk_at bX6_readLine_0 3 rfl
theorem dX6_readLine_9 : decode cX6_readLine 9 = .ok (.ifCond .eq 26, 3) := dk_at bX6_readLine_0 4 rfl
theorem dX6_readLine_12 : decode cX6_readLine 12 = .ok (.aload_n 1, 1) := dk_at bX6_readLine_0 5 rfl
theorem dX6_readLine_13 : decode cX6_readLine 13 = .ok (.getfield 116, 3) := dk_at bX6_readLine_0 6 rfl
theorem dX6_readLine_16 : decode cX6_readLine 16 = .ok (.bipush 12, 2) := dk_at bX6_readLine_0 7 rfl
theorem dX6_readLine_18 : decode cX6_readLine 18 = .ok (.if_icmp .lt 11, 3) := dk_at bX6_readLine_0 8 rfl
theorem dX6_readLine_21 : decode cX6_readLine 21 = .ok (.aload_n 0, 1) := dk_at bX6_readLine_0 9 rfl
theorem dX6_readLine_22 : decode cX6_readLine 22 = .ok (.iconst 4, 1) := dk_at bX6_readLine_0 10 rfl
theorem dX6_readLine_23 : decode cX6_readLine 23 = .ok (.invokevirtual 70, 3) := dk_at bX6_readLine_0 11 rfl
theorem dX6_readLine_26 : decode cX6_readLine 26 = .ok (.goto 8, 3) := dk_at bX6_readLine_0 12 rfl
theorem dX6_readLine_29 : decode cX6_readLine 29 = .ok (.aload_n 0, 1) := dk_at bX6_readLine_0 13 rfl
theorem dX6_readLine_30 : decode cX6_readLine 30 = .ok (.aload_n 1, 1) := dk_at bX6_readLine_0 14 rfl
theorem dX6_readLine_31 : decode cX6_readLine 31 = .ok (.invokevirtual 119, 3) := dk_at bX6_readLine_0 15 rfl
theorem dX6_readLine_34 : decode cX6_readLine 34 = .ok (.ireturn, 1) := dk_at bX6_readLine_0 16 rfl
theorem dX6_readLine_35 : decode cX6_readLine 35 = .ok (.aload_n 0, 1) := dk_at bX6_readLine_0 17 rfl
theorem dX6_readLine_36 : decode cX6_readLine 36 = .ok (.getfield 23, 3) := dk_at bX6_readLine_0 18 rfl
theorem dX6_readLine_39 : decode cX6_readLine 39 = .ok (.ldc 122, 2) := dk_at bX6_readLine_0 19 rfl
theorem dX6_readLine_41 : decode cX6_readLine 41 = .ok (.invokevirtual 66, 3) := dk_at bX6_readLine_0 20 rfl
theorem dX6_readLine_44 : decode cX6_readLine 44 = .ok (.ifCond .eq 25, 3) := dk_at bX6_readLine_0 21 rfl
theorem dX6_readLine_47 : decode cX6_readLine 47 = .ok (.aload_n 1, 1) := dk_at bX6_readLine_0 22 rfl
theorem dX6_readLine_48 : decode cX6_readLine 48 = .ok (.getfield 124, 3) := dk_at bX6_readLine_0 23 rfl
theorem dX6_readLine_51 : decode cX6_readLine 51 = .ok (.iconst (-1), 1) := dk_at bX6_readLine_0 24 rfl
theorem dX6_readLine_52 : decode cX6_readLine 52 = .ok (.if_icmp .eq 11, 3) := dk_at bX6_readLine_0 25 rfl
theorem dX6_readLine_55 : decode cX6_readLine 55 = .ok (.aload_n 0, 1) := dk_at bX6_readLine_0 26 rfl
theorem dX6_readLine_56 : decode cX6_readLine 56 = .ok (.iconst 3, 1) := dk_at bX6_readLine_0 27 rfl
theorem dX6_readLine_57 : decode cX6_readLine 57 = .ok (.invokevirtual 70, 3) := dk_at bX6_readLine_0 28 rfl
theorem dX6_readLine_60 : decode cX6_readLine 60 = .ok (.goto 8, 3) := dk_at bX6_readLine_0 29 rfl
theorem dX6_readLine_63 : decode cX6_readLine 63 = .ok (.aload_n 0, 1) := dk_at bX6_readLine_0 30 rfl
theorem dX6_readLine_64 : decode cX6_readLine 64 = .ok (.aload_n 1, 1) := dk_at bX6_readLine_0 31 rfl
theorem dX6_readLine_65 : decode cX6_readLine 65 = .ok (.invokevirtual 127, 3) := dk_at bX6_readLine_0 32 rfl
theorem dX6_readLine_68 : decode cX6_readLine 68 = .ok (.ireturn, 1) := dk_at bX6_readLine_0 33 rfl
theorem dX6_readLine_69 : decode cX6_readLine 69 = .ok (.aload_n 0, 1) := dk_at bX6_readLine_0 34 rfl
theorem dX6_readLine_70 : decode cX6_readLine 70 = .ok (.getfield 23, 3) := dk_at bX6_readLine_0 35 rfl
theorem dX6_readLine_73 : decode cX6_readLine 73 = .ok (.ldc 77, 2) := dk_at bX6_readLine_0 36 rfl
theorem dX6_readLine_75 : decode cX6_readLine 75 = .ok (.invokevirtual 66, 3) := dk_at bX6_readLine_0 37 rfl
theorem dX6_readLine_78 : decode cX6_readLine 78 = .ok (.ifCond .eq 25, 3) := dk_at bX6_readLine_0 38 rfl
theorem dX6_readLine_81 : decode cX6_readLine 81 = .ok (.aload_n 1, 1) := dk_at bX6_readLine_0 39 rfl
theorem bX6_readLine_82 : dk cX6_readLine [(82, .getfield 130, 3), (85, .iconst (-1), 1), (86, .if_icmp .eq 11, 3), (89, .aload_n 0, 1), (90, .iconst 3, 1), (91, .invokevirtual 70, 3), (94, .goto 8, 3), (97, .aload_n 0, 1), (98, .aload_n 1, 1), (99, .invokevirtual 133, 3), (102, .ireturn, 1), (103, .aload_n 0, 1), (104, .iconst 1, 1), (105, .invokevirtual 70, 3), (108, .ireturn, 1)] = true := by decide +kernel
theorem dX6_readLine_82 : decode cX6_readLine 82 = .ok (.getfield 130, 3) := dk_at bX6_readLine_82 0 rfl
theorem dX6_readLine_85 : decode cX6_readLine 85 = .ok (.iconst (-1), 1) := dk_at bX6_readLine_82 1 rfl
theorem dX6_readLine_86 : decode cX6_readLine 86 = .ok (.if_icmp .eq 11, 3) := dk_at bX6_readLine_82 2 rfl
theorem dX6_readLine_89 : decode cX6_readLine 89 = .ok (.aload_n 0, 1) := dk_at bX6_readLine_82 3 rfl
theorem dX6_readLine_90 : decode cX6_readLine 90 = .ok (.iconst 3, 1) := dk_at bX6_readLine_82 4 rfl
theorem dX6_readLine_91 : decode cX6_readLine 91 = .ok (.invokevirtual 70, 3) := dk_at bX6_readLine_82 5 rfl
theorem dX6_readLine_94 : decode cX6_readLine 94 = .ok (.goto 8, 3) := dk_at bX6_readLine_82 6 rfl
theorem dX6_readLine_97 : decode cX6_readLine 97 = .ok (.aload_n 0, 1) := dk_at bX6_readLine_82 7 rfl
theorem dX6_readLine_98 : decode cX6_readLine 98 = .ok (.aload_n 1, 1) := dk_at bX6_readLine_82 8 rfl
theorem dX6_readLine_99 : decode cX6_readLine 99 = .ok (.invokevirtual 133, 3) := dk_at bX6_readLine_82 9 rfl
theorem dX6_readLine_102 : decode cX6_readLine 102 = .ok (.ireturn, 1) := dk_at bX6_readLine_82 10 rfl
theorem dX6_readLine_103 : decode cX6_readLine 103 = .ok (.aload_n 0, 1) := dk_at bX6_readLine_82 11 rfl
theorem dX6_readLine_104 : decode cX6_readLine 104 = .ok (.iconst 1, 1) := dk_at bX6_readLine_82 12 rfl
theorem dX6_readLine_105 : decode cX6_readLine 105 = .ok (.invokevirtual 70, 3) := dk_at bX6_readLine_82 13 rfl
theorem dX6_readLine_108 : decode cX6_readLine 108 = .ok (.ireturn, 1) := dk_at bX6_readLine_82 14 rfl
set_option maxRecDepth 20000 in
theorem ggX6_readBox_X10_advance : GoodIn wsX6_readBox wsX10_advance := goodIn_r _ [8, 9, 10, 11, 12, 13, 14, 15, 7, 16, 17, 18, 19, 20, 21, 22, 23, 24, 25, 26, 27, 28, 29, 30, 31, 32, 33, 34, 35, 36, 37, 38, 39, 40, 41, 42, 122, 123, 124, 125, 126, 127, 128] rfl (by decide +kernel)
set_option maxRecDepth 20000 in
theorem gX6_readBox_X10_advance : GoodIn wsX6_readBox (wsV RX6 74 RX10 yX10_advance wsX10_advance) := goodIn_app (goodIn_r _ [4, 5, 6, 7] rfl (by decide +kernel)) ggX6_readBox_X10_advance
set_option maxRecDepth 20000 in
theorem ggX6_readBox_X6_takeWord : GoodIn wsX6_readBox wsX6_takeWord := goodIn_r _ [47, 1, 48, 49, 50, 7, 51, 12, 9, 10, 11, 52, 53, 54, 55, 56, 57, 58, 59, 60, 61, 62, 63, 18, 19, 20, 21, 22, 23, 24, 64, 65, 66, 67, 68, 69, 70, 71, 72, 73, 74, 75, 76, 77, 78, 79, 80, 81, 82, 83, 84, 85, 86, 87, 88, 89, 90, 91, 92, 93, 94, 95, 96, 97, 98, 99, 100, 101, 102, 103, 46, 104, 105, 106, 107, 4, 5, 6, 8, 13, 14, 15, 16, 17, 25, 26, 27, 28, 29, 30, 31, 32, 33, 34, 35, 36, 37, 38, 39, 40, 41, 42, 114, 115, 116, 122, 123, 124, 125, 126, 127, 128] rfl (by decide +kernel)
set_option maxRecDepth 20000 in
theorem gX6_readBox_X6_takeWord : GoodIn wsX6_readBox (wsV RX6 101 RX6 yX6_takeWord wsX6_takeWord) := goodIn_app (goodIn_r _ [43, 44, 45, 46] rfl (by decide +kernel)) ggX6_readBox_X6_takeWord
set_option maxRecDepth 20000 in
theorem ggX6_readBox_X6_takeNumber : GoodIn wsX6_readBox wsX6_takeNumber := goodIn_r _ [111, 1, 112, 113, 101, 102, 103, 46, 104, 105, 106, 107, 4, 5, 6, 7, 8, 9, 10, 11, 12, 13, 14, 15, 16, 17, 18, 19, 20, 21, 22, 23, 24, 25, 26, 27, 28, 29, 30, 31, 32, 33, 34, 35, 36, 37, 38, 39, 40, 41, 42, 114, 115, 116, 122, 123, 124, 125, 126, 127, 128] rfl (by decide +kernel)
set_option maxRecDepth 20000 in
theorem gX6_readBox_X6_takeNumber : GoodIn wsX6_readBox (wsV RX6 95 RX6 yX6_takeNumber wsX6_takeNumber) := goodIn_app (goodIn_r _ [108, 109, 110, 46] rfl (by decide +kernel)) ggX6_readBox_X6_takeNumber
theorem bX6_readBox_0 : dk cX6_readBox [(0, .aload_n 0, 1), (1, .getfield 23, 3), (4, .invokevirtual 74, 3), (7, .aload_n 1, 1), (8, .getfield 116, 3), (11, .bipush 6, 2), (13, .imul, 1), (14, .istore_n 2, 1), (15, .iconst 0, 1), (16, .istore_n 3, 1), (17, .iload_n 3, 1), (18, .bipush 6, 2), (20, .if_icmp .ge 68, 3), (23, .iload_n 3, 1), (24, .iconst 4, 1), (25, .if_icmp .ne 12, 3), (28, .aload_n 0, 1), (29, .ldc 136, 2), (31, .invokevirtual 101, 3), (34, .ifCond .eq 17, 3), (37, .iload_n 3, 1), (38, .iconst 5, 1), (39, .if_icmp .ne 14, 3), (42, .aload_n 0, 1), (43, .ldc 138, 2), (45, .invokevirtual 101, 3), (48, .ifCond .ne 5, 3), (51, .iconst 0, 1), (52, .ireturn, 1), (53, .aload_n 0, 1), (54, .getstatic 140, 3), (57, .iload_n 3, 1), (58, .iaload, 1), (59, .invokevirtual 95, 3), (62, .istore 4, 2), (64, .iload 4, 2), (66, .iconst (-1), 1), (67, .if_icmp .ne 5, 3), (70, .iconst 0, 1), (71, .ireturn, 1)] = true := by decide +kernel
theorem dX6_readBox_0 : decode cX6_readBox 0 = .ok (.aload_n 0, 1) := dk_at bX6_readBox_0 0 rfl
theorem dX6_readBox_1 : decode cX6_readBox 1 = .ok (.getfield 23, 3) := dk_at bX6_readBox_0 1 rfl
theorem dX6_readBox_4 : decode cX6_readBox 4 = .ok (.invokevirtual 74, 3) := dk_at bX6_readBox_0 2 rfl
theorem dX6_readBox_7 : decode cX6_readBox 7 = .ok (.aload_n 1, 1) := dk_at bX6_readBox_0 3 rfl
theorem dX6_readBox_8 : decode cX6_readBox 8 = .ok (.getfield 116, 3) := dk_at bX6_readBox_0 4 rfl
theorem dX6_readBox_11 : decode cX6_readBox 11 = .ok (.bipush 6, 2) := dk_at bX6_readBox_0 5 rfl
theorem dX6_readBox_13 : decode cX6_readBox 13 = .ok (.imul, 1) := dk_at bX6_readBox_0 6 rfl
theorem dX6_readBox_14 : decode cX6_readBox 14 = .ok (.istore_n 2, 1) := dk_at bX6_readBox_0 7 rfl
theorem dX6_readBox_15 : decode cX6_readBox 15 = .ok (.iconst 0, 1) := dk_at bX6_readBox_0 8 rfl
theorem dX6_readBox_16 : decode cX6_readBox 16 = .ok (.istore_n 3, 1) := dk_at bX6_readBox_0 9 rfl
theorem dX6_readBox_17 : decode cX6_readBox 17 = .ok (.iload_n 3, 1) := dk_at bX6_readBox_0 10 rfl
theorem dX6_readBox_18 : decode cX6_readBox 18 = .ok (.bipush 6, 2) := dk_at bX6_readBox_0 11 rfl
theorem dX6_readBox_20 : decode cX6_readBox 20 = .ok (.if_icmp .ge 68, 3) := dk_at bX6_readBox_0 12 rfl
theorem dX6_readBox_23 : decode cX6_readBox 23 = .ok (.iload_n 3, 1) := dk_at bX6_readBox_0 13 rfl
theorem dX6_readBox_24 : decode cX6_readBox 24 = .ok (.iconst 4, 1) := dk_at bX6_readBox_0 14 rfl
theorem dX6_readBox_25 : decode cX6_readBox 25 = .ok (.if_icmp .ne 12, 3) := dk_at bX6_readBox_0 15 rfl
theorem dX6_readBox_28 : decode cX6_readBox 28 = .ok (.aload_n 0, 1) := dk_at bX6_readBox_0 16 rfl
theorem dX6_readBox_29 : decode cX6_readBox 29 = .ok (.ldc 136, 2) := dk_at bX6_readBox_0 17 rfl
theorem dX6_readBox_31 : decode cX6_readBox 31 = .ok (.invokevirtual 101, 3) := dk_at bX6_readBox_0 18 rfl
theorem dX6_readBox_34 : decode cX6_readBox 34 = .ok (.ifCond .eq 17, 3) := dk_at bX6_readBox_0 19 rfl
theorem dX6_readBox_37 : decode cX6_readBox 37 = .ok (.iload_n 3, 1) := dk_at bX6_readBox_0 20 rfl
theorem dX6_readBox_38 : decode cX6_readBox 38 = .ok (.iconst 5, 1) := dk_at bX6_readBox_0 21 rfl
theorem dX6_readBox_39 : decode cX6_readBox 39 = .ok (.if_icmp .ne 14, 3) := dk_at bX6_readBox_0 22 rfl
theorem dX6_readBox_42 : decode cX6_readBox 42 = .ok (.aload_n 0, 1) := dk_at bX6_readBox_0 23 rfl
theorem dX6_readBox_43 : decode cX6_readBox 43 = .ok (.ldc 138, 2) := dk_at bX6_readBox_0 24 rfl
theorem dX6_readBox_45 : decode cX6_readBox 45 = .ok (.invokevirtual 101, 3) := dk_at bX6_readBox_0 25 rfl
theorem dX6_readBox_48 : decode cX6_readBox 48 = .ok (.ifCond .ne 5, 3) := dk_at bX6_readBox_0 26 rfl
theorem dX6_readBox_51 : decode cX6_readBox 51 = .ok (.iconst 0, 1) := dk_at bX6_readBox_0 27 rfl
theorem dX6_readBox_52 : decode cX6_readBox 52 = .ok (.ireturn, 1) := dk_at bX6_readBox_0 28 rfl
theorem dX6_readBox_53 : decode cX6_readBox 53 = .ok (.aload_n 0, 1) := dk_at bX6_readBox_0 29 rfl
theorem dX6_readBox_54 : decode cX6_readBox 54 = .ok (.getstatic 140, 3) := dk_at bX6_readBox_0 30 rfl
theorem dX6_readBox_57 : decode cX6_readBox 57 = .ok (.iload_n 3, 1) := dk_at bX6_readBox_0 31 rfl
theorem dX6_readBox_58 : decode cX6_readBox 58 = .ok (.iaload, 1) := dk_at bX6_readBox_0 32 rfl
theorem dX6_readBox_59 : decode cX6_readBox 59 = .ok (.invokevirtual 95, 3) := dk_at bX6_readBox_0 33 rfl
theorem dX6_readBox_62 : decode cX6_readBox 62 = .ok (.istore 4, 2) := dk_at bX6_readBox_0 34 rfl
theorem dX6_readBox_64 : decode cX6_readBox 64 = .ok (.iload 4, 2) := dk_at bX6_readBox_0 35 rfl
theorem dX6_readBox_66 : decode cX6_readBox 66 = .ok (.iconst (-1), 1) := dk_at bX6_readBox_0 36 rfl
theorem dX6_readBox_67 : decode cX6_readBox 67 = .ok (.if_icmp .ne 5, 3) := dk_at bX6_readBox_0 37 rfl
theorem dX6_readBox_70 : decode cX6_readBox 70 = .ok (.iconst 0, 1) := dk_at bX6_readBox_0 38 rfl
theorem dX6_readBox_71 : decode cX6_readBox 71 = .ok (.ireturn, 1) := dk_at bX6_readBox_0 39 rfl
theorem bX6_readBox_72 : dk cX6_readBox [(72, .aload_n 1, 1), (73, .getfield 144, 3), (76, .iload_n 2, 1), (77, .iload_n 3, 1), (78, .iadd, 1), (79, .iload 4, 2), (81, .iastore, 1), (82, .iinc 3 1, 3), (85, .goto (-68), 3), (88, .aload_n 1, 1), (89, .dup, 1), (90, .getfield 116, 3), (93, .iconst 1, 1), (94, .iadd, 1), (95, .putfield 116, 3), (98, .iconst 1, 1), (99, .ireturn, 1)] = true := by decide +kernel
theorem dX6_readBox_72 : decode cX6_readBox 72 = .ok (.aload_n 1, 1) := dk_at bX6_readBox_72 0 rfl
theorem dX6_readBox_73 : decode cX6_readBox 73 = .ok (.getfield 144, 3) := dk_at bX6_readBox_72 1 rfl
theorem dX6_readBox_76 : decode cX6_readBox 76 = .ok (.iload_n 2, 1) := dk_at bX6_readBox_72 2 rfl
theorem dX6_readBox_77 : decode cX6_readBox 77 = .ok (.iload_n 3, 1) := dk_at bX6_readBox_72 3 rfl
theorem dX6_readBox_78 : decode cX6_readBox 78 = .ok (.iadd, 1) := dk_at bX6_readBox_72 4 rfl
theorem dX6_readBox_79 : decode cX6_readBox 79 = .ok (.iload 4, 2) := dk_at bX6_readBox_72 5 rfl
theorem dX6_readBox_81 : decode cX6_readBox 81 = .ok (.iastore, 1) := dk_at bX6_readBox_72 6 rfl
theorem dX6_readBox_82 : decode cX6_readBox 82 = .ok (.iinc 3 1, 3) := dk_at bX6_readBox_72 7 rfl
theorem dX6_readBox_85 : decode cX6_readBox 85 = .ok (.goto (-68), 3) := dk_at bX6_readBox_72 8 rfl
theorem dX6_readBox_88 : decode cX6_readBox 88 = .ok (.aload_n 1, 1) := dk_at bX6_readBox_72 9 rfl
theorem dX6_readBox_89 : decode cX6_readBox 89 = .ok (.dup, 1) := dk_at bX6_readBox_72 10 rfl
theorem dX6_readBox_90 : decode cX6_readBox 90 = .ok (.getfield 116, 3) := dk_at bX6_readBox_72 11 rfl
theorem dX6_readBox_93 : decode cX6_readBox 93 = .ok (.iconst 1, 1) := dk_at bX6_readBox_72 12 rfl
theorem dX6_readBox_94 : decode cX6_readBox 94 = .ok (.iadd, 1) := dk_at bX6_readBox_72 13 rfl
theorem dX6_readBox_95 : decode cX6_readBox 95 = .ok (.putfield 116, 3) := dk_at bX6_readBox_72 14 rfl
theorem dX6_readBox_98 : decode cX6_readBox 98 = .ok (.iconst 1, 1) := dk_at bX6_readBox_72 15 rfl
theorem dX6_readBox_99 : decode cX6_readBox 99 = .ok (.ireturn, 1) := dk_at bX6_readBox_72 16 rfl
set_option maxRecDepth 20000 in
theorem ggX6_readCrew_X10_advance : GoodIn wsX6_readCrew wsX10_advance := goodIn_r _ [7, 8, 9, 10, 11, 12, 13, 14, 6, 15, 16, 17, 18, 19, 20, 21, 22, 23, 24, 25, 26, 27, 28, 29, 30, 31, 32, 33, 34, 35, 36, 37, 38, 39, 40, 41, 64, 65, 66, 67, 68, 69, 70] rfl (by decide +kernel)
set_option maxRecDepth 20000 in
theorem gX6_readCrew_X10_advance : GoodIn wsX6_readCrew (wsV RX6 74 RX10 yX10_advance wsX10_advance) := goodIn_app (goodIn_r _ [3, 4, 5, 6] rfl (by decide +kernel)) ggX6_readCrew_X10_advance
set_option maxRecDepth 20000 in
theorem ggX6_readCrew_X6_takeNumber : GoodIn wsX6_readCrew wsX6_takeNumber := goodIn_r _ [46, 1, 47, 48, 49, 50, 51, 45, 52, 53, 54, 55, 3, 4, 5, 6, 7, 8, 9, 10, 11, 12, 13, 14, 15, 16, 17, 18, 19, 20, 21, 22, 23, 24, 25, 26, 27, 28, 29, 30, 31, 32, 33, 34, 35, 36, 37, 38, 39, 40, 41, 56, 57, 58, 64, 65, 66, 67, 68, 69, 70] rfl (by decide +kernel)
set_option maxRecDepth 20000 in
theorem gX6_readCrew_X6_takeNumber : GoodIn wsX6_readCrew (wsV RX6 95 RX6 yX6_takeNumber wsX6_takeNumber) := goodIn_app (goodIn_r _ [42, 43, 44, 45] rfl (by decide +kernel)) ggX6_readCrew_X6_takeNumber
theorem bX6_readCrew_0 : dk cX6_readCrew [(0, .aload_n 0, 1), (1, .getfield 23, 3), (4, .invokevirtual 74, 3), (7, .aload_n 1, 1), (8, .aload_n 0, 1), (9, .bipush 9, 2), (11, .invokevirtual 95, 3), (14, .putfield 124, 3), (17, .aload_n 1, 1), (18, .getfield 124, 3), (21, .iconst (-1), 1), (22, .if_icmp .eq 7, 3), (25, .iconst 1, 1), (26, .goto 4, 3), (29, .iconst 0, 1), (30, .ireturn, 1)] = true := by decide +kernel
theorem dX6_readCrew_0 : decode cX6_readCrew 0 = .ok (.aload_n 0, 1) := dk_at bX6_readCrew_0 0 rfl
theorem dX6_readCrew_1 : decode cX6_readCrew 1 = .ok (.getfield 23, 3) := dk_at bX6_readCrew_0 1 rfl
theorem dX6_readCrew_4 : decode cX6_readCrew 4 = .ok (.invokevirtual 74, 3) := dk_at bX6_readCrew_0 2 rfl
theorem dX6_readCrew_7 : decode cX6_readCrew 7 = .ok (.aload_n 1, 1) := dk_at bX6_readCrew_0 3 rfl
theorem dX6_readCrew_8 : decode cX6_readCrew 8 = .ok (.aload_n 0, 1) := dk_at bX6_readCrew_0 4 rfl
theorem dX6_readCrew_9 : decode cX6_readCrew 9 = .ok (.bipush 9, 2) := dk_at bX6_readCrew_0 5 rfl
theorem dX6_readCrew_11 : decode cX6_readCrew 11 = .ok (.invokevirtual 95, 3) := dk_at bX6_readCrew_0 6 rfl
theorem dX6_readCrew_14 : decode cX6_readCrew 14 = .ok (.putfield 124, 3) := dk_at bX6_readCrew_0 7 rfl
theorem dX6_readCrew_17 : decode cX6_readCrew 17 = .ok (.aload_n 1, 1) := dk_at bX6_readCrew_0 8 rfl
theorem dX6_readCrew_18 : decode cX6_readCrew 18 = .ok (.getfield 124, 3) := dk_at bX6_readCrew_0 9 rfl
theorem dX6_readCrew_21 : decode cX6_readCrew 21 = .ok (.iconst (-1), 1) := dk_at bX6_readCrew_0 10 rfl
theorem dX6_readCrew_22 : decode cX6_readCrew 22 = .ok (.if_icmp .eq 7, 3) := dk_at bX6_readCrew_0 11 rfl
theorem dX6_readCrew_25 : decode cX6_readCrew 25 = .ok (.iconst 1, 1) := dk_at bX6_readCrew_0 12 rfl
theorem dX6_readCrew_26 : decode cX6_readCrew 26 = .ok (.goto 4, 3) := dk_at bX6_readCrew_0 13 rfl
theorem dX6_readCrew_29 : decode cX6_readCrew 29 = .ok (.iconst 0, 1) := dk_at bX6_readCrew_0 14 rfl
theorem dX6_readCrew_30 : decode cX6_readCrew 30 = .ok (.ireturn, 1) := dk_at bX6_readCrew_0 15 rfl
set_option maxRecDepth 20000 in
theorem ggX6_readForce_X10_advance : GoodIn wsX6_readForce wsX10_advance := goodIn_r _ [7, 8, 9, 10, 11, 12, 13, 14, 6, 15, 16, 17, 18, 19, 20, 21, 22, 23, 24, 25, 26, 27, 28, 29, 30, 31, 32, 33, 34, 35, 36, 37, 38, 39, 40, 41, 64, 65, 66, 67, 68, 69, 70] rfl (by decide +kernel)
set_option maxRecDepth 20000 in
theorem gX6_readForce_X10_advance : GoodIn wsX6_readForce (wsV RX6 74 RX10 yX10_advance wsX10_advance) := goodIn_app (goodIn_r _ [3, 4, 5, 6] rfl (by decide +kernel)) ggX6_readForce_X10_advance
set_option maxRecDepth 20000 in
theorem ggX6_readForce_X6_takeNumber : GoodIn wsX6_readForce wsX6_takeNumber := goodIn_r _ [46, 1, 47, 48, 49, 50, 51, 45, 52, 53, 54, 55, 3, 4, 5, 6, 7, 8, 9, 10, 11, 12, 13, 14, 15, 16, 17, 18, 19, 20, 21, 22, 23, 24, 25, 26, 27, 28, 29, 30, 31, 32, 33, 34, 35, 36, 37, 38, 39, 40, 41, 56, 57, 58, 64, 65, 66, 67, 68, 69, 70] rfl (by decide +kernel)
set_option maxRecDepth 20000 in
theorem gX6_readForce_X6_takeNumber : GoodIn wsX6_readForce (wsV RX6 95 RX6 yX6_takeNumber wsX6_takeNumber) := goodIn_app (goodIn_r _ [42, 43, 44, 45] rfl (by decide +kernel)) ggX6_readForce_X6_takeNumber
theorem bX6_readForce_0 : dk cX6_readForce [(0, .aload_n 0, 1), (1, .getfield 23, 3), (4, .invokevirtual 74, 3), (7, .aload_n 1, 1), (8, .aload_n 0, 1), (9, .bipush 9, 2), (11, .invokevirtual 95, 3), (14, .putfield 130, 3), (17, .aload_n 1, 1), (18, .getfield 130, 3), (21, .iconst (-1), 1), (22, .if_icmp .eq 7, 3), (25, .iconst 1, 1), (26, .goto 4, 3), (29, .iconst 0, 1), (30, .ireturn, 1)] = true := by decide +kernel
theorem dX6_readForce_0 : decode cX6_readForce 0 = .ok (.aload_n 0, 1) := dk_at bX6_readForce_0 0 rfl
theorem dX6_readForce_1 : decode cX6_readForce 1 = .ok (.getfield 23, 3) := dk_at bX6_readForce_0 1 rfl
theorem dX6_readForce_4 : decode cX6_readForce 4 = .ok (.invokevirtual 74, 3) := dk_at bX6_readForce_0 2 rfl
theorem dX6_readForce_7 : decode cX6_readForce 7 = .ok (.aload_n 1, 1) := dk_at bX6_readForce_0 3 rfl
theorem dX6_readForce_8 : decode cX6_readForce 8 = .ok (.aload_n 0, 1) := dk_at bX6_readForce_0 4 rfl
theorem dX6_readForce_9 : decode cX6_readForce 9 = .ok (.bipush 9, 2) := dk_at bX6_readForce_0 5 rfl
theorem dX6_readForce_11 : decode cX6_readForce 11 = .ok (.invokevirtual 95, 3) := dk_at bX6_readForce_0 6 rfl
theorem dX6_readForce_14 : decode cX6_readForce 14 = .ok (.putfield 130, 3) := dk_at bX6_readForce_0 7 rfl
theorem dX6_readForce_17 : decode cX6_readForce 17 = .ok (.aload_n 1, 1) := dk_at bX6_readForce_0 8 rfl
theorem dX6_readForce_18 : decode cX6_readForce 18 = .ok (.getfield 130, 3) := dk_at bX6_readForce_0 9 rfl
theorem dX6_readForce_21 : decode cX6_readForce 21 = .ok (.iconst (-1), 1) := dk_at bX6_readForce_0 10 rfl
theorem dX6_readForce_22 : decode cX6_readForce 22 = .ok (.if_icmp .eq 7, 3) := dk_at bX6_readForce_0 11 rfl
theorem dX6_readForce_25 : decode cX6_readForce 25 = .ok (.iconst 1, 1) := dk_at bX6_readForce_0 12 rfl
theorem dX6_readForce_26 : decode cX6_readForce 26 = .ok (.goto 4, 3) := dk_at bX6_readForce_0 13 rfl
theorem dX6_readForce_29 : decode cX6_readForce 29 = .ok (.iconst 0, 1) := dk_at bX6_readForce_0 14 rfl
theorem dX6_readForce_30 : decode cX6_readForce 30 = .ok (.ireturn, 1) := dk_at bX6_readForce_0 15 rfl
set_option maxRecDepth 20000 in
theorem ggX6_takeWord_X10_spells : GoodIn wsX6_takeWord wsX10_spells := goodIn_r _ [6, 7, 8, 9, 10, 11, 12, 13, 14, 15, 16, 17, 18, 19, 20, 21, 22, 23, 24, 25, 26, 27, 28, 29, 30, 31, 32, 33, 34, 35, 36, 37, 38, 39, 40, 41, 42, 43, 44, 45, 46, 47, 48, 49, 50, 51, 52, 53, 54, 55, 56, 57, 58, 59, 60, 61, 62, 63, 64, 65, 66, 105, 106, 107, 108, 109, 110, 111] rfl (by decide +kernel)
set_option maxRecDepth 20000 in
theorem gX6_takeWord_X10_spells : GoodIn wsX6_takeWord (wsV RX6 66 RX10 yX10_spells wsX10_spells) := goodIn_app (goodIn_r _ [2, 3, 4, 5] rfl (by decide +kernel)) ggX6_takeWord_X10_spells
set_option maxRecDepth 20000 in
theorem ggX6_takeWord_X6_refuse : GoodIn wsX6_takeWord wsX6_refuse := goodIn_r _ [71, 72, 1, 73, 74, 102, 103, 104, 105, 106, 107, 108, 109] rfl (by decide +kernel)
set_option maxRecDepth 20000 in
theorem gX6_takeWord_X6_refuse : GoodIn wsX6_takeWord (wsV RX6 70 RX6 yX6_refuse wsX6_refuse) := goodIn_app (goodIn_r _ [67, 68, 69, 70] rfl (by decide +kernel)) ggX6_takeWord_X6_refuse
set_option maxRecDepth 20000 in
theorem ggX6_takeWord_X10_advance : GoodIn wsX6_takeWord wsX10_advance := goodIn_r _ [78, 8, 9, 10, 7, 79, 80, 81, 5, 82, 83, 23, 24, 25, 26, 27, 28, 29, 84, 85, 86, 87, 88, 89, 90, 91, 92, 93, 94, 95, 96, 97, 98, 99, 100, 101, 105, 106, 107, 108, 109, 110, 111] rfl (by decide +kernel)
set_option maxRecDepth 20000 in
theorem gX6_takeWord_X10_advance : GoodIn wsX6_takeWord (wsV RX6 74 RX10 yX10_advance wsX10_advance) := goodIn_app (goodIn_r _ [75, 76, 77, 5] rfl (by decide +kernel)) ggX6_takeWord_X10_advance
theorem bX6_takeWord_0 : dk cX6_takeWord [(0, .aload_n 0, 1), (1, .getfield 23, 3), (4, .aload_n 1, 1), (5, .invokevirtual 66, 3), (8, .ifCond .ne 9, 3), (11, .aload_n 0, 1), (12, .iconst 1, 1), (13, .invokevirtual 70, 3), (16, .ireturn, 1), (17, .aload_n 0, 1), (18, .getfield 23, 3), (21, .invokevirtual 74, 3), (24, .iconst 1, 1), (25, .ireturn, 1)] = true := by decide +kernel
theorem dX6_takeWord_0 : decode cX6_takeWord 0 = .ok (.aload_n 0, 1) := dk_at bX6_takeWord_0 0 rfl
theorem dX6_takeWord_1 : decode cX6_takeWord 1 = .ok (.getfield 23, 3) := dk_at bX6_takeWord_0 1 rfl
theorem dX6_takeWord_4 : decode cX6_takeWord 4 = .ok (.aload_n 1, 1) := dk_at bX6_takeWord_0 2 rfl
theorem dX6_takeWord_5 : decode cX6_takeWord 5 = .ok (.invokevirtual 66, 3) := dk_at bX6_takeWord_0 3 rfl
theorem dX6_takeWord_8 : decode cX6_takeWord 8 = .ok (.ifCond .ne 9, 3) := dk_at bX6_takeWord_0 4 rfl
theorem dX6_takeWord_11 : decode cX6_takeWord 11 = .ok (.aload_n 0, 1) := dk_at bX6_takeWord_0 5 rfl
theorem dX6_takeWord_12 : decode cX6_takeWord 12 = .ok (.iconst 1, 1) := dk_at bX6_takeWord_0 6 rfl
theorem dX6_takeWord_13 : decode cX6_takeWord 13 = .ok (.invokevirtual 70, 3) := dk_at bX6_takeWord_0 7 rfl
theorem dX6_takeWord_16 : decode cX6_takeWord 16 = .ok (.ireturn, 1) := dk_at bX6_takeWord_0 8 rfl
theorem dX6_takeWord_17 : decode cX6_takeWord 17 = .ok (.aload_n 0, 1) := dk_at bX6_takeWord_0 9 rfl
theorem dX6_takeWord_18 : decode cX6_takeWord 18 = .ok (.getfield 23, 3) := dk_at bX6_takeWord_0 10 rfl
theorem dX6_takeWord_21 : decode cX6_takeWord 21 = .ok (.invokevirtual 74, 3) := dk_at bX6_takeWord_0 11 rfl
theorem dX6_takeWord_24 : decode cX6_takeWord 24 = .ok (.iconst 1, 1) := dk_at bX6_takeWord_0 12 rfl
theorem dX6_takeWord_25 : decode cX6_takeWord 25 = .ok (.ireturn, 1) := dk_at bX6_takeWord_0 13 rfl
set_option maxRecDepth 20000 in
theorem ggX6_takeOneOf_X10_spells : GoodIn wsX6_takeOneOf wsX10_spells := goodIn_r _ [6, 7, 8, 9, 10, 11, 12, 13, 14, 15, 16, 17, 18, 19, 20, 21, 22, 23, 24, 25, 26, 27, 28, 29, 30, 31, 32, 33, 34, 35, 36, 37, 38, 39, 40, 41, 42, 43, 44, 45, 46, 47, 48, 49, 50, 51, 52, 53, 54, 55, 56, 57, 58, 59, 60, 61, 62, 63, 64, 65, 66, 105, 106, 107, 108, 109, 110, 111] rfl (by decide +kernel)
set_option maxRecDepth 20000 in
theorem gX6_takeOneOf_X10_spells : GoodIn wsX6_takeOneOf (wsV RX6 66 RX10 yX10_spells wsX10_spells) := goodIn_app (goodIn_r _ [2, 3, 4, 5] rfl (by decide +kernel)) ggX6_takeOneOf_X10_spells
set_option maxRecDepth 20000 in
theorem ggX6_takeOneOf_X6_refuse : GoodIn wsX6_takeOneOf wsX6_refuse := goodIn_r _ [71, 72, 1, 73, 74, 102, 103, 104, 105, 106, 107, 108, 109] rfl (by decide +kernel)
set_option maxRecDepth 20000 in
theorem gX6_takeOneOf_X6_refuse : GoodIn wsX6_takeOneOf (wsV RX6 70 RX6 yX6_refuse wsX6_refuse) := goodIn_app (goodIn_r _ [67, 68, 69, 70] rfl (by decide +kernel)) ggX6_takeOneOf_X6_refuse
set_option maxRecDepth 20000 in
theorem ggX6_takeOneOf_X10_advance : GoodIn wsX6_takeOneOf wsX10_advance := goodIn_r _ [78, 8, 9, 10, 7, 79, 80, 81, 5, 82, 83, 23, 24, 25, 26, 27, 28, 29, 84, 85, 86, 87, 88, 89, 90, 91, 92, 93, 94, 95, 96, 97, 98, 99, 100, 101, 105, 106, 107, 108, 109, 110, 111] rfl (by decide +kernel)
set_option maxRecDepth 20000 in
theorem gX6_takeOneOf_X10_advance : GoodIn wsX6_takeOneOf (wsV RX6 74 RX10 yX10_advance wsX10_advance) := goodIn_app (goodIn_r _ [75, 76, 77, 5] rfl (by decide +kernel)) ggX6_takeOneOf_X10_advance
theorem bX6_takeOneOf_0 : dk cX6_takeOneOf [(0, .aload_n 0, 1), (1, .getfield 23, 3), (4, .aload_n 1, 1), (5, .invokevirtual 66, 3), (8, .ifCond .eq 7, 3), (11, .iconst 0, 1), (12, .goto 50, 3), (15, .aload_n 0, 1), (16, .getfield 23, 3), (19, .aload_n 2, 1), (20, .invokevirtual 66, 3), (23, .ifCond .eq 7, 3), (26, .iconst 1, 1), (27, .goto 35, 3), (30, .aload_n 0, 1), (31, .getfield 23, 3), (34, .aload_n 3, 1), (35, .invokevirtual 66, 3), (38, .ifCond .eq 7, 3), (41, .iconst 2, 1), (42, .goto 20, 3), (45, .aload_n 0, 1), (46, .getfield 23, 3), (49, .aload 4, 2), (51, .invokevirtual 66, 3), (54, .ifCond .eq 7, 3), (57, .iconst 3, 1), (58, .goto 4, 3), (61, .iconst (-1), 1), (62, .istore 5, 2), (64, .iload 5, 2), (66, .iconst (-1), 1), (67, .if_icmp .ne 12, 3), (70, .aload_n 0, 1), (71, .iconst 1, 1), (72, .invokevirtual 70, 3), (75, .pop, 1), (76, .goto 10, 3), (79, .aload_n 0, 1), (80, .getfield 23, 3)] = true := by decide +kernel
theorem dX6_takeOneOf_0 : decode cX6_takeOneOf 0 = .ok (.aload_n 0, 1) := dk_at bX6_takeOneOf_0 0 rfl
theorem dX6_takeOneOf_1 : decode cX6_takeOneOf 1 = .ok (.getfield 23, 3) := dk_at bX6_takeOneOf_0 1 rfl
theorem dX6_takeOneOf_4 : decode cX6_takeOneOf 4 = .ok (.aload_n 1, 1) := dk_at bX6_takeOneOf_0 2 rfl
theorem dX6_takeOneOf_5 : decode cX6_takeOneOf 5 = .ok (.invokevirtual 66, 3) := dk_at bX6_takeOneOf_0 3 rfl
theorem dX6_takeOneOf_8 : decode cX6_takeOneOf 8 = .ok (.ifCond .eq 7, 3) := dk_at bX6_takeOneOf_0 4 rfl
theorem dX6_takeOneOf_11 : decode cX6_takeOneOf 11 = .ok (.iconst 0, 1) := dk_at bX6_takeOneOf_0 5 rfl
theorem dX6_takeOneOf_12 : decode cX6_takeOneOf 12 = .ok (.goto 50, 3) := dk_at bX6_takeOneOf_0 6 rfl
theorem dX6_takeOneOf_15 : decode cX6_takeOneOf 15 = .ok (.aload_n 0, 1) := dk_at bX6_takeOneOf_0 7 rfl
theorem dX6_takeOneOf_16 : decode cX6_takeOneOf 16 = .ok (.getfield 23, 3) := dk_at bX6_takeOneOf_0 8 rfl
theorem dX6_takeOneOf_19 : decode cX6_takeOneOf 19 = .ok (.aload_n 2, 1) := dk_at bX6_takeOneOf_0 9 rfl
theorem dX6_takeOneOf_20 : decode cX6_takeOneOf 20 = .ok (.invokevirtual 66, 3) := dk_at bX6_takeOneOf_0 10 rfl
theorem dX6_takeOneOf_23 : decode cX6_takeOneOf 23 = .ok (.ifCond .eq 7, 3) := dk_at bX6_takeOneOf_0 11 rfl
theorem dX6_takeOneOf_26 : decode cX6_takeOneOf 26 = .ok (.iconst 1, 1) := dk_at bX6_takeOneOf_0 12 rfl
theorem dX6_takeOneOf_27 : decode cX6_takeOneOf 27 = .ok (.goto 35, 3) := dk_at bX6_takeOneOf_0 13 rfl
theorem dX6_takeOneOf_30 : decode cX6_takeOneOf 30 = .ok (.aload_n 0, 1) := dk_at bX6_takeOneOf_0 14 rfl
theorem dX6_takeOneOf_31 : decode cX6_takeOneOf 31 = .ok (.getfield 23, 3) := dk_at bX6_takeOneOf_0 15 rfl
theorem dX6_takeOneOf_34 : decode cX6_takeOneOf 34 = .ok (.aload_n 3, 1) := dk_at bX6_takeOneOf_0 16 rfl
theorem dX6_takeOneOf_35 : decode cX6_takeOneOf 35 = .ok (.invokevirtual 66, 3) := dk_at bX6_takeOneOf_0 17 rfl
theorem dX6_takeOneOf_38 : decode cX6_takeOneOf 38 = .ok (.ifCond .eq 7, 3) := dk_at bX6_takeOneOf_0 18 rfl
theorem dX6_takeOneOf_41 : decode cX6_takeOneOf 41 = .ok (.iconst 2, 1) := dk_at bX6_takeOneOf_0 19 rfl
theorem dX6_takeOneOf_42 : decode cX6_takeOneOf 42 = .ok (.goto 20, 3) := dk_at bX6_takeOneOf_0 20 rfl
theorem dX6_takeOneOf_45 : decode cX6_takeOneOf 45 = .ok (.aload_n 0, 1) := dk_at bX6_takeOneOf_0 21 rfl
theorem dX6_takeOneOf_46 : decode cX6_takeOneOf 46 = .ok (.getfield 23, 3) := dk_at bX6_takeOneOf_0 22 rfl
theorem dX6_takeOneOf_49 : decode cX6_takeOneOf 49 = .ok (.aload 4, 2) := dk_at bX6_takeOneOf_0 23 rfl
theorem dX6_takeOneOf_51 : decode cX6_takeOneOf 51 = .ok (.invokevirtual 66, 3) := dk_at bX6_takeOneOf_0 24 rfl
theorem dX6_takeOneOf_54 : decode cX6_takeOneOf 54 = .ok (.ifCond .eq 7, 3) := dk_at bX6_takeOneOf_0 25 rfl
theorem dX6_takeOneOf_57 : decode cX6_takeOneOf 57 = .ok (.iconst 3, 1) := dk_at bX6_takeOneOf_0 26 rfl
theorem dX6_takeOneOf_58 : decode cX6_takeOneOf 58 = .ok (.goto 4, 3) := dk_at bX6_takeOneOf_0 27 rfl
theorem dX6_takeOneOf_61 : decode cX6_takeOneOf 61 = .ok (.iconst (-1), 1) := dk_at bX6_takeOneOf_0 28 rfl
theorem dX6_takeOneOf_62 : decode cX6_takeOneOf 62 = .ok (.istore 5, 2) := dk_at bX6_takeOneOf_0 29 rfl
theorem dX6_takeOneOf_64 : decode cX6_takeOneOf 64 = .ok (.iload 5, 2) := dk_at bX6_takeOneOf_0 30 rfl
theorem dX6_takeOneOf_66 : decode cX6_takeOneOf 66 = .ok (.iconst (-1), 1) := dk_at bX6_takeOneOf_0 31 rfl
theorem dX6_takeOneOf_67 : decode cX6_takeOneOf 67 = .ok (.if_icmp .ne 12, 3) := dk_at bX6_takeOneOf_0 32 rfl
theorem dX6_takeOneOf_70 : decode cX6_takeOneOf 70 = .ok (.aload_n 0, 1) := dk_at bX6_takeOneOf_0 33 rfl
theorem dX6_takeOneOf_71 : decode cX6_takeOneOf 71 = .ok (.iconst 1, 1) := dk_at bX6_takeOneOf_0 34 rfl
theorem dX6_takeOneOf_72 : decode cX6_takeOneOf 72 = .ok (.invokevirtual 70, 3) := dk_at bX6_takeOneOf_0 35 rfl
theorem dX6_takeOneOf_75 : decode cX6_takeOneOf 75 = .ok (.pop, 1) := dk_at bX6_takeOneOf_0 36 rfl
theorem dX6_takeOneOf_76 : decode cX6_takeOneOf 76 = .ok (.goto 10, 3) := dk_at bX6_takeOneOf_0 37 rfl
theorem dX6_takeOneOf_79 : decode cX6_takeOneOf 79 = .ok (.aload_n 0, 1) := dk_at bX6_takeOneOf_0 38 rfl
theorem dX6_takeOneOf_80 : decode cX6_takeOneOf 80 = .ok (.getfield 23, 3) := dk_at bX6_takeOneOf_0 39 rfl
theorem bX6_takeOneOf_83 : dk cX6_takeOneOf [(83, .invokevirtual 74, 3), (86, .iload 5, 2), (88, .ireturn, 1)] = true := by decide +kernel
theorem dX6_takeOneOf_83 : decode cX6_takeOneOf 83 = .ok (.invokevirtual 74, 3) := dk_at bX6_takeOneOf_83 0 rfl
theorem dX6_takeOneOf_86 : decode cX6_takeOneOf 86 = .ok (.iload 5, 2) := dk_at bX6_takeOneOf_83 1 rfl
theorem dX6_takeOneOf_88 : decode cX6_takeOneOf 88 = .ok (.ireturn, 1) := dk_at bX6_takeOneOf_83 2 rfl
set_option maxRecDepth 20000 in
theorem ggX6_takeNumber_X6_refuse : GoodIn wsX6_takeNumber wsX6_refuse := goodIn_r _ [8, 9, 1, 10, 11, 51, 52, 53, 54, 55, 56, 57, 58] rfl (by decide +kernel)
set_option maxRecDepth 20000 in
theorem gX6_takeNumber_X6_refuse : GoodIn wsX6_takeNumber (wsV RX6 70 RX6 yX6_refuse wsX6_refuse) := goodIn_app (goodIn_r _ [4, 5, 6, 7] rfl (by decide +kernel)) ggX6_takeNumber_X6_refuse
set_option maxRecDepth 20000 in
theorem ggX6_takeNumber_X10_advance : GoodIn wsX6_takeNumber wsX10_advance := goodIn_r _ [16, 17, 18, 19, 20, 21, 22, 23, 15, 24, 25, 26, 27, 28, 29, 30, 31, 32, 33, 34, 35, 36, 37, 38, 39, 40, 41, 42, 43, 44, 45, 46, 47, 48, 49, 50, 54, 55, 56, 57, 58, 59, 60] rfl (by decide +kernel)
set_option maxRecDepth 20000 in
theorem gX6_takeNumber_X10_advance : GoodIn wsX6_takeNumber (wsV RX6 74 RX10 yX10_advance wsX10_advance) := goodIn_app (goodIn_r _ [12, 13, 14, 15] rfl (by decide +kernel)) ggX6_takeNumber_X10_advance
theorem bX6_takeNumber_0 : dk cX6_takeNumber [(0, .aload_n 0, 1), (1, .getfield 23, 3), (4, .getfield 35, 3), (7, .iconst 2, 1), (8, .if_icmp .ne 14, 3), (11, .aload_n 0, 1), (12, .getfield 23, 3), (15, .getfield 147, 3), (18, .iload_n 1, 1), (19, .if_icmp .le 26, 3), (22, .aload_n 0, 1), (23, .aload_n 0, 1), (24, .getfield 23, 3), (27, .getfield 35, 3), (30, .iconst 2, 1), (31, .if_icmp .eq 7, 3), (34, .iconst 1, 1), (35, .goto 4, 3), (38, .iconst 2, 1), (39, .invokevirtual 70, 3), (42, .pop, 1), (43, .iconst (-1), 1), (44, .ireturn, 1), (45, .aload_n 0, 1), (46, .getfield 23, 3), (49, .getfield 147, 3), (52, .istore_n 2, 1), (53, .aload_n 0, 1), (54, .getfield 23, 3), (57, .invokevirtual 74, 3), (60, .iload_n 2, 1), (61, .ireturn, 1)] = true := by decide +kernel
theorem dX6_takeNumber_0 : decode cX6_takeNumber 0 = .ok (.aload_n 0, 1) := dk_at bX6_takeNumber_0 0 rfl
theorem dX6_takeNumber_1 : decode cX6_takeNumber 1 = .ok (.getfield 23, 3) := dk_at bX6_takeNumber_0 1 rfl
theorem dX6_takeNumber_4 : decode cX6_takeNumber 4 = .ok (.getfield 35, 3) := dk_at bX6_takeNumber_0 2 rfl
theorem dX6_takeNumber_7 : decode cX6_takeNumber 7 = .ok (.iconst 2, 1) := dk_at bX6_takeNumber_0 3 rfl
theorem dX6_takeNumber_8 : decode cX6_takeNumber 8 = .ok (.if_icmp .ne 14, 3) := dk_at bX6_takeNumber_0 4 rfl
theorem dX6_takeNumber_11 : decode cX6_takeNumber 11 = .ok (.aload_n 0, 1) := dk_at bX6_takeNumber_0 5 rfl
theorem dX6_takeNumber_12 : decode cX6_takeNumber 12 = .ok (.getfield 23, 3) := dk_at bX6_takeNumber_0 6 rfl
theorem dX6_takeNumber_15 : decode cX6_takeNumber 15 = .ok (.getfield 147, 3) := dk_at bX6_takeNumber_0 7 rfl
theorem dX6_takeNumber_18 : decode cX6_takeNumber 18 = .ok (.iload_n 1, 1) := dk_at bX6_takeNumber_0 8 rfl
theorem dX6_takeNumber_19 : decode cX6_takeNumber 19 = .ok (.if_icmp .le 26, 3) := dk_at bX6_takeNumber_0 9 rfl
theorem dX6_takeNumber_22 : decode cX6_takeNumber 22 = .ok (.aload_n 0, 1) := dk_at bX6_takeNumber_0 10 rfl
theorem dX6_takeNumber_23 : decode cX6_takeNumber 23 = .ok (.aload_n 0, 1) := dk_at bX6_takeNumber_0 11 rfl
theorem dX6_takeNumber_24 : decode cX6_takeNumber 24 = .ok (.getfield 23, 3) := dk_at bX6_takeNumber_0 12 rfl
theorem dX6_takeNumber_27 : decode cX6_takeNumber 27 = .ok (.getfield 35, 3) := dk_at bX6_takeNumber_0 13 rfl
theorem dX6_takeNumber_30 : decode cX6_takeNumber 30 = .ok (.iconst 2, 1) := dk_at bX6_takeNumber_0 14 rfl
theorem dX6_takeNumber_31 : decode cX6_takeNumber 31 = .ok (.if_icmp .eq 7, 3) := dk_at bX6_takeNumber_0 15 rfl
theorem dX6_takeNumber_34 : decode cX6_takeNumber 34 = .ok (.iconst 1, 1) := dk_at bX6_takeNumber_0 16 rfl
theorem dX6_takeNumber_35 : decode cX6_takeNumber 35 = .ok (.goto 4, 3) := dk_at bX6_takeNumber_0 17 rfl
theorem dX6_takeNumber_38 : decode cX6_takeNumber 38 = .ok (.iconst 2, 1) := dk_at bX6_takeNumber_0 18 rfl
theorem dX6_takeNumber_39 : decode cX6_takeNumber 39 = .ok (.invokevirtual 70, 3) := dk_at bX6_takeNumber_0 19 rfl
theorem dX6_takeNumber_42 : decode cX6_takeNumber 42 = .ok (.pop, 1) := dk_at bX6_takeNumber_0 20 rfl
theorem dX6_takeNumber_43 : decode cX6_takeNumber 43 = .ok (.iconst (-1), 1) := dk_at bX6_takeNumber_0 21 rfl
theorem dX6_takeNumber_44 : decode cX6_takeNumber 44 = .ok (.ireturn, 1) := dk_at bX6_takeNumber_0 22 rfl
theorem dX6_takeNumber_45 : decode cX6_takeNumber 45 = .ok (.aload_n 0, 1) := dk_at bX6_takeNumber_0 23 rfl
theorem dX6_takeNumber_46 : decode cX6_takeNumber 46 = .ok (.getfield 23, 3) := dk_at bX6_takeNumber_0 24 rfl
theorem dX6_takeNumber_49 : decode cX6_takeNumber 49 = .ok (.getfield 147, 3) := dk_at bX6_takeNumber_0 25 rfl
theorem dX6_takeNumber_52 : decode cX6_takeNumber 52 = .ok (.istore_n 2, 1) := dk_at bX6_takeNumber_0 26 rfl
theorem dX6_takeNumber_53 : decode cX6_takeNumber 53 = .ok (.aload_n 0, 1) := dk_at bX6_takeNumber_0 27 rfl
theorem dX6_takeNumber_54 : decode cX6_takeNumber 54 = .ok (.getfield 23, 3) := dk_at bX6_takeNumber_0 28 rfl
theorem dX6_takeNumber_57 : decode cX6_takeNumber 57 = .ok (.invokevirtual 74, 3) := dk_at bX6_takeNumber_0 29 rfl
theorem dX6_takeNumber_60 : decode cX6_takeNumber 60 = .ok (.iload_n 2, 1) := dk_at bX6_takeNumber_0 30 rfl
theorem dX6_takeNumber_61 : decode cX6_takeNumber 61 = .ok (.ireturn, 1) := dk_at bX6_takeNumber_0 31 rfl
set_option maxRecDepth 20000 in
theorem ggX6_takeStop_X6_refuse : GoodIn wsX6_takeStop wsX6_refuse := goodIn_r _ [7, 8, 1, 9, 10, 50, 51, 52, 53, 54, 55, 56, 57] rfl (by decide +kernel)
set_option maxRecDepth 20000 in
theorem gX6_takeStop_X6_refuse : GoodIn wsX6_takeStop (wsV RX6 70 RX6 yX6_refuse wsX6_refuse) := goodIn_app (goodIn_r _ [3, 4, 5, 6] rfl (by decide +kernel)) ggX6_takeStop_X6_refuse
set_option maxRecDepth 20000 in
theorem ggX6_takeStop_X10_advance : GoodIn wsX6_takeStop wsX10_advance := goodIn_r _ [15, 16, 17, 18, 19, 20, 21, 22, 14, 23, 24, 25, 26, 27, 28, 29, 30, 31, 32, 33, 34, 35, 36, 37, 38, 39, 40, 41, 42, 43, 44, 45, 46, 47, 48, 49, 53, 54, 55, 56, 57, 58, 59] rfl (by decide +kernel)
set_option maxRecDepth 20000 in
theorem gX6_takeStop_X10_advance : GoodIn wsX6_takeStop (wsV RX6 74 RX10 yX10_advance wsX10_advance) := goodIn_app (goodIn_r _ [11, 12, 13, 14] rfl (by decide +kernel)) ggX6_takeStop_X10_advance
theorem bX6_takeStop_0 : dk cX6_takeStop [(0, .aload_n 0, 1), (1, .getfield 23, 3), (4, .getfield 35, 3), (7, .iconst 3, 1), (8, .if_icmp .eq 9, 3), (11, .aload_n 0, 1), (12, .iconst 1, 1), (13, .invokevirtual 70, 3), (16, .ireturn, 1), (17, .aload_n 0, 1), (18, .getfield 23, 3), (21, .invokevirtual 74, 3), (24, .iconst 1, 1), (25, .ireturn, 1)] = true := by decide +kernel
theorem dX6_takeStop_0 : decode cX6_takeStop 0 = .ok (.aload_n 0, 1) := dk_at bX6_takeStop_0 0 rfl
theorem dX6_takeStop_1 : decode cX6_takeStop 1 = .ok (.getfield 23, 3) := dk_at bX6_takeStop_0 1 rfl
theorem dX6_takeStop_4 : decode cX6_takeStop 4 = .ok (.getfield 35, 3) := dk_at bX6_takeStop_0 2 rfl
theorem dX6_takeStop_7 : decode cX6_takeStop 7 = .ok (.iconst 3, 1) := dk_at bX6_takeStop_0 3 rfl
theorem dX6_takeStop_8 : decode cX6_takeStop 8 = .ok (.if_icmp .eq 9, 3) := dk_at bX6_takeStop_0 4 rfl
theorem dX6_takeStop_11 : decode cX6_takeStop 11 = .ok (.aload_n 0, 1) := dk_at bX6_takeStop_0 5 rfl
theorem dX6_takeStop_12 : decode cX6_takeStop 12 = .ok (.iconst 1, 1) := dk_at bX6_takeStop_0 6 rfl
theorem dX6_takeStop_13 : decode cX6_takeStop 13 = .ok (.invokevirtual 70, 3) := dk_at bX6_takeStop_0 7 rfl
theorem dX6_takeStop_16 : decode cX6_takeStop 16 = .ok (.ireturn, 1) := dk_at bX6_takeStop_0 8 rfl
theorem dX6_takeStop_17 : decode cX6_takeStop 17 = .ok (.aload_n 0, 1) := dk_at bX6_takeStop_0 9 rfl
theorem dX6_takeStop_18 : decode cX6_takeStop 18 = .ok (.getfield 23, 3) := dk_at bX6_takeStop_0 10 rfl
theorem dX6_takeStop_21 : decode cX6_takeStop 21 = .ok (.invokevirtual 74, 3) := dk_at bX6_takeStop_0 11 rfl
theorem dX6_takeStop_24 : decode cX6_takeStop 24 = .ok (.iconst 1, 1) := dk_at bX6_takeStop_0 12 rfl
theorem dX6_takeStop_25 : decode cX6_takeStop 25 = .ok (.ireturn, 1) := dk_at bX6_takeStop_0 13 rfl
theorem bX6_refuse_0 : dk cX6_refuse [(0, .aload_n 0, 1), (1, .iload_n 1, 1), (2, .putfield 9, 3), (5, .aload_n 0, 1), (6, .aload_n 0, 1), (7, .getfield 23, 3), (10, .getfield 150, 3), (13, .putfield 15, 3), (16, .iconst 0, 1), (17, .ireturn, 1)] = true := by decide +kernel
theorem dX6_refuse_0 : decode cX6_refuse 0 = .ok (.aload_n 0, 1) := dk_at bX6_refuse_0 0 rfl
theorem dX6_refuse_1 : decode cX6_refuse 1 = .ok (.iload_n 1, 1) := dk_at bX6_refuse_0 1 rfl
theorem dX6_refuse_2 : decode cX6_refuse 2 = .ok (.putfield 9, 3) := dk_at bX6_refuse_0 2 rfl
theorem dX6_refuse_5 : decode cX6_refuse 5 = .ok (.aload_n 0, 1) := dk_at bX6_refuse_0 3 rfl
theorem dX6_refuse_6 : decode cX6_refuse 6 = .ok (.aload_n 0, 1) := dk_at bX6_refuse_0 4 rfl
theorem dX6_refuse_7 : decode cX6_refuse 7 = .ok (.getfield 23, 3) := dk_at bX6_refuse_0 5 rfl
theorem dX6_refuse_10 : decode cX6_refuse 10 = .ok (.getfield 150, 3) := dk_at bX6_refuse_0 6 rfl
theorem dX6_refuse_13 : decode cX6_refuse 13 = .ok (.putfield 15, 3) := dk_at bX6_refuse_0 7 rfl
theorem dX6_refuse_16 : decode cX6_refuse 16 = .ok (.iconst 0, 1) := dk_at bX6_refuse_0 8 rfl
theorem dX6_refuse_17 : decode cX6_refuse 17 = .ok (.ireturn, 1) := dk_at bX6_refuse_0 9 rfl
theorem bX7_init_0 : dk cX7_init [(0, .aload_n 0, 1), (1, .invokespecial 3, 3), (4, .aload_n 0, 1), (5, .bipush 12, 2), (7, .newarray .int, 2), (9, .putfield 9, 3), (12, .aload_n 0, 1), (13, .bipush 12, 2), (15, .newarray .boolean, 2), (17, .putfield 15, 3), (20, .aload_n 0, 1), (21, .bipush 12, 2), (23, .newarray .int, 2), (25, .putfield 19, 3), (28, .aload_n 0, 1), (29, .bipush 12, 2), (31, .newarray .int, 2), (33, .putfield 22, 3), (36, .aload_n 0, 1), (37, .iconst 0, 1), (38, .putfield 25, 3), (41, .return_, 1)] = true := by decide +kernel
theorem dX7_init_0 : decode cX7_init 0 = .ok (.aload_n 0, 1) := dk_at bX7_init_0 0 rfl
theorem dX7_init_1 : decode cX7_init 1 = .ok (.invokespecial 3, 3) := dk_at bX7_init_0 1 rfl
theorem dX7_init_4 : decode cX7_init 4 = .ok (.aload_n 0, 1) := dk_at bX7_init_0 2 rfl
theorem dX7_init_5 : decode cX7_init 5 = .ok (.bipush 12, 2) := dk_at bX7_init_0 3 rfl
theorem dX7_init_7 : decode cX7_init 7 = .ok (.newarray .int, 2) := dk_at bX7_init_0 4 rfl
theorem dX7_init_9 : decode cX7_init 9 = .ok (.putfield 9, 3) := dk_at bX7_init_0 5 rfl
theorem dX7_init_12 : decode cX7_init 12 = .ok (.aload_n 0, 1) := dk_at bX7_init_0 6 rfl
theorem dX7_init_13 : decode cX7_init 13 = .ok (.bipush 12, 2) := dk_at bX7_init_0 7 rfl
theorem dX7_init_15 : decode cX7_init 15 = .ok (.newarray .boolean, 2) := dk_at bX7_init_0 8 rfl
theorem dX7_init_17 : decode cX7_init 17 = .ok (.putfield 15, 3) := dk_at bX7_init_0 9 rfl
theorem dX7_init_20 : decode cX7_init 20 = .ok (.aload_n 0, 1) := dk_at bX7_init_0 10 rfl
theorem dX7_init_21 : decode cX7_init 21 = .ok (.bipush 12, 2) := dk_at bX7_init_0 11 rfl
theorem dX7_init_23 : decode cX7_init 23 = .ok (.newarray .int, 2) := dk_at bX7_init_0 12 rfl
theorem dX7_init_25 : decode cX7_init 25 = .ok (.putfield 19, 3) := dk_at bX7_init_0 13 rfl
theorem dX7_init_28 : decode cX7_init 28 = .ok (.aload_n 0, 1) := dk_at bX7_init_0 14 rfl
theorem dX7_init_29 : decode cX7_init 29 = .ok (.bipush 12, 2) := dk_at bX7_init_0 15 rfl
theorem dX7_init_31 : decode cX7_init 31 = .ok (.newarray .int, 2) := dk_at bX7_init_0 16 rfl
theorem dX7_init_33 : decode cX7_init 33 = .ok (.putfield 22, 3) := dk_at bX7_init_0 17 rfl
theorem dX7_init_36 : decode cX7_init 36 = .ok (.aload_n 0, 1) := dk_at bX7_init_0 18 rfl
theorem dX7_init_37 : decode cX7_init 37 = .ok (.iconst 0, 1) := dk_at bX7_init_0 19 rfl
theorem dX7_init_38 : decode cX7_init 38 = .ok (.putfield 25, 3) := dk_at bX7_init_0 20 rfl
theorem dX7_init_41 : decode cX7_init 41 = .ok (.return_, 1) := dk_at bX7_init_0 21 rfl
set_option maxRecDepth 20000 in
theorem ggX7_add_X11_below : GoodIn wsX7_add wsX11_below := goodIn_r _ [8] rfl (by decide +kernel)
set_option maxRecDepth 20000 in
theorem gX7_add_X11_below_n29 : GoodIn wsX7_add (wsX11_below) := ggX7_add_X11_below
theorem bX7_add_0 : dk cX7_add [(0, .aload_n 0, 1), (1, .getfield 25, 3), (4, .bipush 12, 2), (6, .invokestatic 29, 3), (9, .ifCond .eq 54, 3), (12, .aload_n 0, 1), (13, .getfield 9, 3), (16, .aload_n 0, 1), (17, .getfield 25, 3), (20, .iload_n 1, 1), (21, .iastore, 1), (22, .aload_n 0, 1), (23, .getfield 15, 3), (26, .aload_n 0, 1), (27, .getfield 25, 3), (30, .iload_n 2, 1), (31, .bastore, 1), (32, .aload_n 0, 1), (33, .getfield 19, 3), (36, .aload_n 0, 1), (37, .getfield 25, 3), (40, .iload_n 3, 1), (41, .iastore, 1), (42, .aload_n 0, 1), (43, .getfield 22, 3), (46, .aload_n 0, 1), (47, .getfield 25, 3), (50, .iload 4, 2), (52, .iastore, 1), (53, .aload_n 0, 1), (54, .dup, 1), (55, .getfield 25, 3), (58, .iconst 1, 1), (59, .iadd, 1), (60, .putfield 25, 3), (63, .return_, 1)] = true := by decide +kernel
theorem dX7_add_0 : decode cX7_add 0 = .ok (.aload_n 0, 1) := dk_at bX7_add_0 0 rfl
theorem dX7_add_1 : decode cX7_add 1 = .ok (.getfield 25, 3) := dk_at bX7_add_0 1 rfl
theorem dX7_add_4 : decode cX7_add 4 = .ok (.bipush 12, 2) := dk_at bX7_add_0 2 rfl
theorem dX7_add_6 : decode cX7_add 6 = .ok (.invokestatic 29, 3) := dk_at bX7_add_0 3 rfl
theorem dX7_add_9 : decode cX7_add 9 = .ok (.ifCond .eq 54, 3) := dk_at bX7_add_0 4 rfl
theorem dX7_add_12 : decode cX7_add 12 = .ok (.aload_n 0, 1) := dk_at bX7_add_0 5 rfl
theorem dX7_add_13 : decode cX7_add 13 = .ok (.getfield 9, 3) := dk_at bX7_add_0 6 rfl
theorem dX7_add_16 : decode cX7_add 16 = .ok (.aload_n 0, 1) := dk_at bX7_add_0 7 rfl
theorem dX7_add_17 : decode cX7_add 17 = .ok (.getfield 25, 3) := dk_at bX7_add_0 8 rfl
theorem dX7_add_20 : decode cX7_add 20 = .ok (.iload_n 1, 1) := dk_at bX7_add_0 9 rfl
theorem dX7_add_21 : decode cX7_add 21 = .ok (.iastore, 1) := dk_at bX7_add_0 10 rfl
theorem dX7_add_22 : decode cX7_add 22 = .ok (.aload_n 0, 1) := dk_at bX7_add_0 11 rfl
theorem dX7_add_23 : decode cX7_add 23 = .ok (.getfield 15, 3) := dk_at bX7_add_0 12 rfl
theorem dX7_add_26 : decode cX7_add 26 = .ok (.aload_n 0, 1) := dk_at bX7_add_0 13 rfl
theorem dX7_add_27 : decode cX7_add 27 = .ok (.getfield 25, 3) := dk_at bX7_add_0 14 rfl
theorem dX7_add_30 : decode cX7_add 30 = .ok (.iload_n 2, 1) := dk_at bX7_add_0 15 rfl
theorem dX7_add_31 : decode cX7_add 31 = .ok (.bastore, 1) := dk_at bX7_add_0 16 rfl
theorem dX7_add_32 : decode cX7_add 32 = .ok (.aload_n 0, 1) := dk_at bX7_add_0 17 rfl
theorem dX7_add_33 : decode cX7_add 33 = .ok (.getfield 19, 3) := dk_at bX7_add_0 18 rfl
theorem dX7_add_36 : decode cX7_add 36 = .ok (.aload_n 0, 1) := dk_at bX7_add_0 19 rfl
theorem dX7_add_37 : decode cX7_add 37 = .ok (.getfield 25, 3) := dk_at bX7_add_0 20 rfl
theorem dX7_add_40 : decode cX7_add 40 = .ok (.iload_n 3, 1) := dk_at bX7_add_0 21 rfl
theorem dX7_add_41 : decode cX7_add 41 = .ok (.iastore, 1) := dk_at bX7_add_0 22 rfl
theorem dX7_add_42 : decode cX7_add 42 = .ok (.aload_n 0, 1) := dk_at bX7_add_0 23 rfl
theorem dX7_add_43 : decode cX7_add 43 = .ok (.getfield 22, 3) := dk_at bX7_add_0 24 rfl
theorem dX7_add_46 : decode cX7_add 46 = .ok (.aload_n 0, 1) := dk_at bX7_add_0 25 rfl
theorem dX7_add_47 : decode cX7_add 47 = .ok (.getfield 25, 3) := dk_at bX7_add_0 26 rfl
theorem dX7_add_50 : decode cX7_add 50 = .ok (.iload 4, 2) := dk_at bX7_add_0 27 rfl
theorem dX7_add_52 : decode cX7_add 52 = .ok (.iastore, 1) := dk_at bX7_add_0 28 rfl
theorem dX7_add_53 : decode cX7_add 53 = .ok (.aload_n 0, 1) := dk_at bX7_add_0 29 rfl
theorem dX7_add_54 : decode cX7_add 54 = .ok (.dup, 1) := dk_at bX7_add_0 30 rfl
theorem dX7_add_55 : decode cX7_add 55 = .ok (.getfield 25, 3) := dk_at bX7_add_0 31 rfl
theorem dX7_add_58 : decode cX7_add 58 = .ok (.iconst 1, 1) := dk_at bX7_add_0 32 rfl
theorem dX7_add_59 : decode cX7_add 59 = .ok (.iadd, 1) := dk_at bX7_add_0 33 rfl
theorem dX7_add_60 : decode cX7_add 60 = .ok (.putfield 25, 3) := dk_at bX7_add_0 34 rfl
theorem dX7_add_63 : decode cX7_add 63 = .ok (.return_, 1) := dk_at bX7_add_0 35 rfl
set_option maxRecDepth 20000 in
theorem ggX7_actAt_X7_pick : GoodIn wsX7_actAt wsX7_pick := goodIn_r _ [9] rfl (by decide +kernel)
set_option maxRecDepth 20000 in
theorem gX7_actAt_X7_pick : GoodIn wsX7_actAt (va_wsS RX7 33 yX7_pick wsX7_pick) := goodIn_app (goodIn_r _ [6, 7, 8] rfl (by decide +kernel)) ggX7_actAt_X7_pick
theorem bX7_actAt_0 : dk cX7_actAt [(0, .iconst 0, 1), (1, .istore 5, 2), (3, .iload 5, 2), (5, .aload_n 0, 1), (6, .getfield 25, 3), (9, .if_icmp .ge 78, 3), (12, .iload 5, 2), (14, .bipush 12, 2), (16, .if_icmp .ge 71, 3), (19, .aload_n 0, 1), (20, .getfield 9, 3), (23, .iload 5, 2), (25, .iaload, 1), (26, .iload_n 1, 1), (27, .iload_n 2, 1), (28, .iload_n 3, 1), (29, .iload 4, 2), (31, .invokestatic 33, 3), (34, .istore 6, 2), (36, .aload_n 0, 1), (37, .getfield 15, 3), (40, .iload 5, 2), (42, .baload, 1), (43, .ifCond .eq 18, 3), (46, .iload 6, 2), (48, .aload_n 0, 1), (49, .getfield 19, 3), (52, .iload 5, 2), (54, .iaload, 1), (55, .if_icmp .le 26, 3), (58, .goto 15, 3), (61, .iload 6, 2), (63, .aload_n 0, 1), (64, .getfield 19, 3), (67, .iload 5, 2), (69, .iaload, 1), (70, .if_icmp .ge 11, 3), (73, .aload_n 0, 1), (74, .getfield 22, 3), (77, .iload 5, 2)] = true := by decide +kernel
theorem dX7_actAt_0 : decode cX7_actAt 0 = .ok (.iconst 0, 1) := dk_at bX7_actAt_0 0 rfl
theorem dX7_actAt_1 : decode cX7_actAt 1 = .ok (.istore 5, 2) := dk_at bX7_actAt_0 1 rfl
theorem dX7_actAt_3 : decode cX7_actAt 3 = .ok (.iload 5, 2) := dk_at bX7_actAt_0 2 rfl
theorem dX7_actAt_5 : decode cX7_actAt 5 = .ok (.aload_n 0, 1) := dk_at bX7_actAt_0 3 rfl
theorem dX7_actAt_6 : decode cX7_actAt 6 = .ok (.getfield 25, 3) := dk_at bX7_actAt_0 4 rfl
theorem dX7_actAt_9 : decode cX7_actAt 9 = .ok (.if_icmp .ge 78, 3) := dk_at bX7_actAt_0 5 rfl
theorem dX7_actAt_12 : decode cX7_actAt 12 = .ok (.iload 5, 2) := dk_at bX7_actAt_0 6 rfl
theorem dX7_actAt_14 : decode cX7_actAt 14 = .ok (.bipush 12, 2) := dk_at bX7_actAt_0 7 rfl
theorem dX7_actAt_16 : decode cX7_actAt 16 = .ok (.if_icmp .ge 71, 3) := dk_at bX7_actAt_0 8 rfl
theorem dX7_actAt_19 : decode cX7_actAt 19 = .ok (.aload_n 0, 1) := dk_at bX7_actAt_0 9 rfl
theorem dX7_actAt_20 : decode cX7_actAt 20 = .ok (.getfield 9, 3) := dk_at bX7_actAt_0 10 rfl
theorem dX7_actAt_23 : decode cX7_actAt 23 = .ok (.iload 5, 2) := dk_at bX7_actAt_0 11 rfl
theorem dX7_actAt_25 : decode cX7_actAt 25 = .ok (.iaload, 1) := dk_at bX7_actAt_0 12 rfl
theorem dX7_actAt_26 : decode cX7_actAt 26 = .ok (.iload_n 1, 1) := dk_at bX7_actAt_0 13 rfl
theorem dX7_actAt_27 : decode cX7_actAt 27 = .ok (.iload_n 2, 1) := dk_at bX7_actAt_0 14 rfl
theorem dX7_actAt_28 : decode cX7_actAt 28 = .ok (.iload_n 3, 1) := dk_at bX7_actAt_0 15 rfl
theorem dX7_actAt_29 : decode cX7_actAt 29 = .ok (.iload 4, 2) := dk_at bX7_actAt_0 16 rfl
theorem dX7_actAt_31 : decode cX7_actAt 31 = .ok (.invokestatic 33, 3) := dk_at bX7_actAt_0 17 rfl
theorem dX7_actAt_34 : decode cX7_actAt 34 = .ok (.istore 6, 2) := dk_at bX7_actAt_0 18 rfl
theorem dX7_actAt_36 : decode cX7_actAt 36 = .ok (.aload_n 0, 1) := dk_at bX7_actAt_0 19 rfl
theorem dX7_actAt_37 : decode cX7_actAt 37 = .ok (.getfield 15, 3) := dk_at bX7_actAt_0 20 rfl
theorem dX7_actAt_40 : decode cX7_actAt 40 = .ok (.iload 5, 2) := dk_at bX7_actAt_0 21 rfl
theorem dX7_actAt_42 : decode cX7_actAt 42 = .ok (.baload, 1) := dk_at bX7_actAt_0 22 rfl
theorem dX7_actAt_43 : decode cX7_actAt 43 = .ok (.ifCond .eq 18, 3) := dk_at bX7_actAt_0 23 rfl
theorem dX7_actAt_46 : decode cX7_actAt 46 = .ok (.iload 6, 2) := dk_at bX7_actAt_0 24 rfl
theorem dX7_actAt_48 : decode cX7_actAt 48 = .ok (.aload_n 0, 1) := dk_at bX7_actAt_0 25 rfl
theorem dX7_actAt_49 : decode cX7_actAt 49 = .ok (.getfield 19, 3) := dk_at bX7_actAt_0 26 rfl
theorem dX7_actAt_52 : decode cX7_actAt 52 = .ok (.iload 5, 2) := dk_at bX7_actAt_0 27 rfl
theorem dX7_actAt_54 : decode cX7_actAt 54 = .ok (.iaload, 1) := dk_at bX7_actAt_0 28 rfl
theorem dX7_actAt_55 : decode cX7_actAt 55 = .ok (.if_icmp .le 26, 3) := dk_at bX7_actAt_0 29 rfl
theorem dX7_actAt_58 : decode cX7_actAt 58 = .ok (.goto 15, 3) := dk_at bX7_actAt_0 30 rfl
theorem dX7_actAt_61 : decode cX7_actAt 61 = .ok (.iload 6, 2) := dk_at bX7_actAt_0 31 rfl
theorem dX7_actAt_63 : decode cX7_actAt 63 = .ok (.aload_n 0, 1) := dk_at bX7_actAt_0 32 rfl
theorem dX7_actAt_64 : decode cX7_actAt 64 = .ok (.getfield 19, 3) := dk_at bX7_actAt_0 33 rfl
theorem dX7_actAt_67 : decode cX7_actAt 67 = .ok (.iload 5, 2) := dk_at bX7_actAt_0 34 rfl
theorem dX7_actAt_69 : decode cX7_actAt 69 = .ok (.iaload, 1) := dk_at bX7_actAt_0 35 rfl
theorem dX7_actAt_70 : decode cX7_actAt 70 = .ok (.if_icmp .ge 11, 3) := dk_at bX7_actAt_0 36 rfl
theorem dX7_actAt_73 : decode cX7_actAt 73 = .ok (.aload_n 0, 1) := dk_at bX7_actAt_0 37 rfl
theorem dX7_actAt_74 : decode cX7_actAt 74 = .ok (.getfield 22, 3) := dk_at bX7_actAt_0 38 rfl
theorem dX7_actAt_77 : decode cX7_actAt 77 = .ok (.iload 5, 2) := dk_at bX7_actAt_0 39 rfl
theorem bX7_actAt_79 : dk cX7_actAt [(79, .iaload, 1), (80, .ireturn, 1), (81, .iinc 5 1, 3), (84, .goto (-81), 3), (87, .iconst (-1), 1), (88, .ireturn, 1)] = true := by decide +kernel
theorem dX7_actAt_79 : decode cX7_actAt 79 = .ok (.iaload, 1) := dk_at bX7_actAt_79 0 rfl
theorem dX7_actAt_80 : decode cX7_actAt 80 = .ok (.ireturn, 1) := dk_at bX7_actAt_79 1 rfl
theorem dX7_actAt_81 : decode cX7_actAt 81 = .ok (.iinc 5 1, 3) := dk_at bX7_actAt_79 2 rfl
theorem dX7_actAt_84 : decode cX7_actAt 84 = .ok (.goto (-81), 3) := dk_at bX7_actAt_79 3 rfl
theorem dX7_actAt_87 : decode cX7_actAt 87 = .ok (.iconst (-1), 1) := dk_at bX7_actAt_79 4 rfl
theorem dX7_actAt_88 : decode cX7_actAt 88 = .ok (.ireturn, 1) := dk_at bX7_actAt_79 5 rfl
theorem bX7_pick_0 : dk cX7_pick [(0, .iload_n 0, 1), (1, .tableswitch 33 0 2 #[27, 29, 31], 27), (28, .iload_n 1, 1), (29, .ireturn, 1), (30, .iload_n 2, 1), (31, .ireturn, 1), (32, .iload_n 3, 1), (33, .ireturn, 1), (34, .iload 4, 2), (36, .ireturn, 1)] = true := by decide +kernel
theorem dX7_pick_0 : decode cX7_pick 0 = .ok (.iload_n 0, 1) := dk_at bX7_pick_0 0 rfl
theorem dX7_pick_1 : decode cX7_pick 1 = .ok (.tableswitch 33 0 2 #[27, 29, 31], 27) := dk_at bX7_pick_0 1 rfl
theorem dX7_pick_28 : decode cX7_pick 28 = .ok (.iload_n 1, 1) := dk_at bX7_pick_0 2 rfl
theorem dX7_pick_29 : decode cX7_pick 29 = .ok (.ireturn, 1) := dk_at bX7_pick_0 3 rfl
theorem dX7_pick_30 : decode cX7_pick 30 = .ok (.iload_n 2, 1) := dk_at bX7_pick_0 4 rfl
theorem dX7_pick_31 : decode cX7_pick 31 = .ok (.ireturn, 1) := dk_at bX7_pick_0 5 rfl
theorem dX7_pick_32 : decode cX7_pick 32 = .ok (.iload_n 3, 1) := dk_at bX7_pick_0 6 rfl
theorem dX7_pick_33 : decode cX7_pick 33 = .ok (.ireturn, 1) := dk_at bX7_pick_0 7 rfl
theorem dX7_pick_34 : decode cX7_pick 34 = .ok (.iload 4, 2) := dk_at bX7_pick_0 8 rfl
theorem dX7_pick_36 : decode cX7_pick 36 = .ok (.ireturn, 1) := dk_at bX7_pick_0 9 rfl
theorem bX8_init_0 : dk cX8_init [(0, .aload_n 0, 1), (1, .invokespecial 3, 3), (4, .aload_n 0, 1), (5, .sipush 288, 3), (8, .newarray .int, 2), (10, .putfield 9, 3), (13, .aload_n 0, 1), (14, .bipush 10, 2), (16, .newarray .int, 2), (18, .putfield 15, 3), (21, .return_, 1)] = true := by decide +kernel
theorem dX8_init_0 : decode cX8_init 0 = .ok (.aload_n 0, 1) := dk_at bX8_init_0 0 rfl
theorem dX8_init_1 : decode cX8_init 1 = .ok (.invokespecial 3, 3) := dk_at bX8_init_0 1 rfl
theorem dX8_init_4 : decode cX8_init 4 = .ok (.aload_n 0, 1) := dk_at bX8_init_0 2 rfl
theorem dX8_init_5 : decode cX8_init 5 = .ok (.sipush 288, 3) := dk_at bX8_init_0 3 rfl
theorem dX8_init_8 : decode cX8_init 8 = .ok (.newarray .int, 2) := dk_at bX8_init_0 4 rfl
theorem dX8_init_10 : decode cX8_init 10 = .ok (.putfield 9, 3) := dk_at bX8_init_0 5 rfl
theorem dX8_init_13 : decode cX8_init 13 = .ok (.aload_n 0, 1) := dk_at bX8_init_0 6 rfl
theorem dX8_init_14 : decode cX8_init 14 = .ok (.bipush 10, 2) := dk_at bX8_init_0 7 rfl
theorem dX8_init_16 : decode cX8_init 16 = .ok (.newarray .int, 2) := dk_at bX8_init_0 8 rfl
theorem dX8_init_18 : decode cX8_init 18 = .ok (.putfield 15, 3) := dk_at bX8_init_0 9 rfl
theorem dX8_init_21 : decode cX8_init 21 = .ok (.return_, 1) := dk_at bX8_init_0 10 rfl
set_option maxRecDepth 20000 in
theorem ggX8_windAt_X11_rowOf : GoodIn wsX8_windAt wsX11_rowOf := goodIn_r _ [4] rfl (by decide +kernel)
set_option maxRecDepth 20000 in
theorem gX8_windAt_X11_rowOf_n18 : GoodIn wsX8_windAt (wsX11_rowOf) := ggX8_windAt_X11_rowOf
set_option maxRecDepth 20000 in
theorem ggX8_windAt_X11_columnOf : GoodIn wsX8_windAt wsX11_columnOf := goodIn_r _ [6] rfl (by decide +kernel)
set_option maxRecDepth 20000 in
theorem gX8_windAt_X11_columnOf_n22 : GoodIn wsX8_windAt (wsX11_columnOf) := ggX8_windAt_X11_columnOf
set_option maxRecDepth 20000 in
theorem ggX8_windAt_X11_below : GoodIn wsX8_windAt wsX11_below := goodIn_r _ [8] rfl (by decide +kernel)
set_option maxRecDepth 20000 in
theorem gX8_windAt_X11_below_n25 : GoodIn wsX8_windAt (wsX11_below) := ggX8_windAt_X11_below
theorem bX8_windAt_0 : dk cX8_windAt [(0, .iload_n 1, 1), (1, .invokestatic 18, 3), (4, .iconst 5, 1), (5, .idiv, 1), (6, .bipush 6, 2), (8, .imul, 1), (9, .iload_n 1, 1), (10, .invokestatic 22, 3), (13, .iconst 5, 1), (14, .idiv, 1), (15, .iadd, 1), (16, .istore_n 3, 1), (17, .iload_n 3, 1), (18, .bipush 12, 2), (20, .imul, 1), (21, .iload_n 2, 1), (22, .sipush 360, 3), (25, .irem, 1), (26, .bipush 30, 2), (28, .idiv, 1), (29, .iadd, 1), (30, .istore 4, 2), (32, .iload 4, 2), (34, .sipush 288, 3), (37, .invokestatic 25, 3), (40, .ifCond .eq 13, 3), (43, .aload_n 0, 1), (44, .getfield 9, 3), (47, .iload 4, 2), (49, .iaload, 1), (50, .goto 4, 3), (53, .iconst 0, 1), (54, .ireturn, 1)] = true := by decide +kernel
theorem dX8_windAt_0 : decode cX8_windAt 0 = .ok (.iload_n 1, 1) := dk_at bX8_windAt_0 0 rfl
theorem dX8_windAt_1 : decode cX8_windAt 1 = .ok (.invokestatic 18, 3) := dk_at bX8_windAt_0 1 rfl
theorem dX8_windAt_4 : decode cX8_windAt 4 = .ok (.iconst 5, 1) := dk_at bX8_windAt_0 2 rfl
theorem dX8_windAt_5 : decode cX8_windAt 5 = .ok (.idiv, 1) := dk_at bX8_windAt_0 3 rfl
theorem dX8_windAt_6 : decode cX8_windAt 6 = .ok (.bipush 6, 2) := dk_at bX8_windAt_0 4 rfl
theorem dX8_windAt_8 : decode cX8_windAt 8 = .ok (.imul, 1) := dk_at bX8_windAt_0 5 rfl
theorem dX8_windAt_9 : decode cX8_windAt 9 = .ok (.iload_n 1, 1) := dk_at bX8_windAt_0 6 rfl
theorem dX8_windAt_10 : decode cX8_windAt 10 = .ok (.invokestatic 22, 3) := dk_at bX8_windAt_0 7 rfl
theorem dX8_windAt_13 : decode cX8_windAt 13 = .ok (.iconst 5, 1) := dk_at bX8_windAt_0 8 rfl
theorem dX8_windAt_14 : decode cX8_windAt 14 = .ok (.idiv, 1) := dk_at bX8_windAt_0 9 rfl
theorem dX8_windAt_15 : decode cX8_windAt 15 = .ok (.iadd, 1) := dk_at bX8_windAt_0 10 rfl
theorem dX8_windAt_16 : decode cX8_windAt 16 = .ok (.istore_n 3, 1) := dk_at bX8_windAt_0 11 rfl
theorem dX8_windAt_17 : decode cX8_windAt 17 = .ok (.iload_n 3, 1) := dk_at bX8_windAt_0 12 rfl
theorem dX8_windAt_18 : decode cX8_windAt 18 = .ok (.bipush 12, 2) := dk_at bX8_windAt_0 13 rfl
theorem dX8_windAt_20 : decode cX8_windAt 20 = .ok (.imul, 1) := dk_at bX8_windAt_0 14 rfl
theorem dX8_windAt_21 : decode cX8_windAt 21 = .ok (.iload_n 2, 1) := dk_at bX8_windAt_0 15 rfl
theorem dX8_windAt_22 : decode cX8_windAt 22 = .ok (.sipush 360, 3) := dk_at bX8_windAt_0 16 rfl
theorem dX8_windAt_25 : decode cX8_windAt 25 = .ok (.irem, 1) := dk_at bX8_windAt_0 17 rfl
theorem dX8_windAt_26 : decode cX8_windAt 26 = .ok (.bipush 30, 2) := dk_at bX8_windAt_0 18 rfl
theorem dX8_windAt_28 : decode cX8_windAt 28 = .ok (.idiv, 1) := dk_at bX8_windAt_0 19 rfl
theorem dX8_windAt_29 : decode cX8_windAt 29 = .ok (.iadd, 1) := dk_at bX8_windAt_0 20 rfl
theorem dX8_windAt_30 : decode cX8_windAt 30 = .ok (.istore 4, 2) := dk_at bX8_windAt_0 21 rfl
theorem dX8_windAt_32 : decode cX8_windAt 32 = .ok (.iload 4, 2) := dk_at bX8_windAt_0 22 rfl
theorem dX8_windAt_34 : decode cX8_windAt 34 = .ok (.sipush 288, 3) := dk_at bX8_windAt_0 23 rfl
theorem dX8_windAt_37 : decode cX8_windAt 37 = .ok (.invokestatic 25, 3) := dk_at bX8_windAt_0 24 rfl
theorem dX8_windAt_40 : decode cX8_windAt 40 = .ok (.ifCond .eq 13, 3) := dk_at bX8_windAt_0 25 rfl
theorem dX8_windAt_43 : decode cX8_windAt 43 = .ok (.aload_n 0, 1) := dk_at bX8_windAt_0 26 rfl
theorem dX8_windAt_44 : decode cX8_windAt 44 = .ok (.getfield 9, 3) := dk_at bX8_windAt_0 27 rfl
theorem dX8_windAt_47 : decode cX8_windAt 47 = .ok (.iload 4, 2) := dk_at bX8_windAt_0 28 rfl
theorem dX8_windAt_49 : decode cX8_windAt 49 = .ok (.iaload, 1) := dk_at bX8_windAt_0 29 rfl
theorem dX8_windAt_50 : decode cX8_windAt 50 = .ok (.goto 4, 3) := dk_at bX8_windAt_0 30 rfl
theorem dX8_windAt_53 : decode cX8_windAt 53 = .ok (.iconst 0, 1) := dk_at bX8_windAt_0 31 rfl
theorem dX8_windAt_54 : decode cX8_windAt 54 = .ok (.ireturn, 1) := dk_at bX8_windAt_0 32 rfl
theorem bX9_init_0 : dk cX9_init [(0, .aload_n 0, 1), (1, .invokespecial 3, 3), (4, .aload_n 0, 1), (5, .sipush 800, 3), (8, .newarray .int, 2), (10, .putfield 9, 3), (13, .aload_n 0, 1), (14, .iconst 0, 1), (15, .putfield 15, 3), (18, .return_, 1)] = true := by decide +kernel
theorem dX9_init_0 : decode cX9_init 0 = .ok (.aload_n 0, 1) := dk_at bX9_init_0 0 rfl
theorem dX9_init_1 : decode cX9_init 1 = .ok (.invokespecial 3, 3) := dk_at bX9_init_0 1 rfl
theorem dX9_init_4 : decode cX9_init 4 = .ok (.aload_n 0, 1) := dk_at bX9_init_0 2 rfl
theorem dX9_init_5 : decode cX9_init 5 = .ok (.sipush 800, 3) := dk_at bX9_init_0 3 rfl
theorem dX9_init_8 : decode cX9_init 8 = .ok (.newarray .int, 2) := dk_at bX9_init_0 4 rfl
theorem dX9_init_10 : decode cX9_init 10 = .ok (.putfield 9, 3) := dk_at bX9_init_0 5 rfl
theorem dX9_init_13 : decode cX9_init 13 = .ok (.aload_n 0, 1) := dk_at bX9_init_0 6 rfl
theorem dX9_init_14 : decode cX9_init 14 = .ok (.iconst 0, 1) := dk_at bX9_init_0 7 rfl
theorem dX9_init_15 : decode cX9_init 15 = .ok (.putfield 15, 3) := dk_at bX9_init_0 8 rfl
theorem dX9_init_18 : decode cX9_init 18 = .ok (.return_, 1) := dk_at bX9_init_0 9 rfl
theorem bX9_append_0 : dk cX9_append [(0, .bipush 24, 2), (2, .istore_n 2, 1), (3, .iload_n 2, 1), (4, .ifCond .lt 45, 3), (7, .aload_n 0, 1), (8, .getfield 15, 3), (11, .sipush 800, 3), (14, .if_icmp .ge 35, 3), (17, .aload_n 0, 1), (18, .getfield 9, 3), (21, .aload_n 0, 1), (22, .getfield 15, 3), (25, .iload_n 1, 1), (26, .iload_n 2, 1), (27, .iushr, 1), (28, .sipush 255, 3), (31, .iand, 1), (32, .iastore, 1), (33, .aload_n 0, 1), (34, .dup, 1), (35, .getfield 15, 3), (38, .iconst 1, 1), (39, .iadd, 1), (40, .putfield 15, 3), (43, .iinc 2 (-8), 3), (46, .goto (-43), 3), (49, .return_, 1)] = true := by decide +kernel
theorem dX9_append_0 : decode cX9_append 0 = .ok (.bipush 24, 2) := dk_at bX9_append_0 0 rfl
theorem dX9_append_2 : decode cX9_append 2 = .ok (.istore_n 2, 1) := dk_at bX9_append_0 1 rfl
theorem dX9_append_3 : decode cX9_append 3 = .ok (.iload_n 2, 1) := dk_at bX9_append_0 2 rfl
theorem dX9_append_4 : decode cX9_append 4 = .ok (.ifCond .lt 45, 3) := dk_at bX9_append_0 3 rfl
theorem dX9_append_7 : decode cX9_append 7 = .ok (.aload_n 0, 1) := dk_at bX9_append_0 4 rfl
theorem dX9_append_8 : decode cX9_append 8 = .ok (.getfield 15, 3) := dk_at bX9_append_0 5 rfl
theorem dX9_append_11 : decode cX9_append 11 = .ok (.sipush 800, 3) := dk_at bX9_append_0 6 rfl
theorem dX9_append_14 : decode cX9_append 14 = .ok (.if_icmp .ge 35, 3) := dk_at bX9_append_0 7 rfl
theorem dX9_append_17 : decode cX9_append 17 = .ok (.aload_n 0, 1) := dk_at bX9_append_0 8 rfl
theorem dX9_append_18 : decode cX9_append 18 = .ok (.getfield 9, 3) := dk_at bX9_append_0 9 rfl
theorem dX9_append_21 : decode cX9_append 21 = .ok (.aload_n 0, 1) := dk_at bX9_append_0 10 rfl
theorem dX9_append_22 : decode cX9_append 22 = .ok (.getfield 15, 3) := dk_at bX9_append_0 11 rfl
theorem dX9_append_25 : decode cX9_append 25 = .ok (.iload_n 1, 1) := dk_at bX9_append_0 12 rfl
theorem dX9_append_26 : decode cX9_append 26 = .ok (.iload_n 2, 1) := dk_at bX9_append_0 13 rfl
theorem dX9_append_27 : decode cX9_append 27 = .ok (.iushr, 1) := dk_at bX9_append_0 14 rfl
theorem dX9_append_28 : decode cX9_append 28 = .ok (.sipush 255, 3) := dk_at bX9_append_0 15 rfl
theorem dX9_append_31 : decode cX9_append 31 = .ok (.iand, 1) := dk_at bX9_append_0 16 rfl
theorem dX9_append_32 : decode cX9_append 32 = .ok (.iastore, 1) := dk_at bX9_append_0 17 rfl
theorem dX9_append_33 : decode cX9_append 33 = .ok (.aload_n 0, 1) := dk_at bX9_append_0 18 rfl
theorem dX9_append_34 : decode cX9_append 34 = .ok (.dup, 1) := dk_at bX9_append_0 19 rfl
theorem dX9_append_35 : decode cX9_append 35 = .ok (.getfield 15, 3) := dk_at bX9_append_0 20 rfl
theorem dX9_append_38 : decode cX9_append 38 = .ok (.iconst 1, 1) := dk_at bX9_append_0 21 rfl
theorem dX9_append_39 : decode cX9_append 39 = .ok (.iadd, 1) := dk_at bX9_append_0 22 rfl
theorem dX9_append_40 : decode cX9_append 40 = .ok (.putfield 15, 3) := dk_at bX9_append_0 23 rfl
theorem dX9_append_43 : decode cX9_append 43 = .ok (.iinc 2 (-8), 3) := dk_at bX9_append_0 24 rfl
theorem dX9_append_46 : decode cX9_append 46 = .ok (.goto (-43), 3) := dk_at bX9_append_0 25 rfl
theorem dX9_append_49 : decode cX9_append 49 = .ok (.return_, 1) := dk_at bX9_append_0 26 rfl
theorem bX9_byteAt_0 : dk cX9_byteAt [(0, .iload_n 1, 1), (1, .ifCond .lt 27, 3), (4, .iload_n 1, 1), (5, .aload_n 0, 1), (6, .getfield 15, 3), (9, .if_icmp .ge 19, 3), (12, .iload_n 1, 1), (13, .sipush 800, 3), (16, .if_icmp .ge 12, 3), (19, .aload_n 0, 1), (20, .getfield 9, 3), (23, .iload_n 1, 1), (24, .iaload, 1), (25, .goto 4, 3), (28, .iconst (-1), 1), (29, .ireturn, 1)] = true := by decide +kernel
theorem dX9_byteAt_0 : decode cX9_byteAt 0 = .ok (.iload_n 1, 1) := dk_at bX9_byteAt_0 0 rfl
theorem dX9_byteAt_1 : decode cX9_byteAt 1 = .ok (.ifCond .lt 27, 3) := dk_at bX9_byteAt_0 1 rfl
theorem dX9_byteAt_4 : decode cX9_byteAt 4 = .ok (.iload_n 1, 1) := dk_at bX9_byteAt_0 2 rfl
theorem dX9_byteAt_5 : decode cX9_byteAt 5 = .ok (.aload_n 0, 1) := dk_at bX9_byteAt_0 3 rfl
theorem dX9_byteAt_6 : decode cX9_byteAt 6 = .ok (.getfield 15, 3) := dk_at bX9_byteAt_0 4 rfl
theorem dX9_byteAt_9 : decode cX9_byteAt 9 = .ok (.if_icmp .ge 19, 3) := dk_at bX9_byteAt_0 5 rfl
theorem dX9_byteAt_12 : decode cX9_byteAt 12 = .ok (.iload_n 1, 1) := dk_at bX9_byteAt_0 6 rfl
theorem dX9_byteAt_13 : decode cX9_byteAt 13 = .ok (.sipush 800, 3) := dk_at bX9_byteAt_0 7 rfl
theorem dX9_byteAt_16 : decode cX9_byteAt 16 = .ok (.if_icmp .ge 12, 3) := dk_at bX9_byteAt_0 8 rfl
theorem dX9_byteAt_19 : decode cX9_byteAt 19 = .ok (.aload_n 0, 1) := dk_at bX9_byteAt_0 9 rfl
theorem dX9_byteAt_20 : decode cX9_byteAt 20 = .ok (.getfield 9, 3) := dk_at bX9_byteAt_0 10 rfl
theorem dX9_byteAt_23 : decode cX9_byteAt 23 = .ok (.iload_n 1, 1) := dk_at bX9_byteAt_0 11 rfl
theorem dX9_byteAt_24 : decode cX9_byteAt 24 = .ok (.iaload, 1) := dk_at bX9_byteAt_0 12 rfl
theorem dX9_byteAt_25 : decode cX9_byteAt 25 = .ok (.goto 4, 3) := dk_at bX9_byteAt_0 13 rfl
theorem dX9_byteAt_28 : decode cX9_byteAt 28 = .ok (.iconst (-1), 1) := dk_at bX9_byteAt_0 14 rfl
theorem dX9_byteAt_29 : decode cX9_byteAt 29 = .ok (.ireturn, 1) := dk_at bX9_byteAt_0 15 rfl
theorem bX10_init_0 : dk cX10_init [(0, .aload_n 0, 1), (1, .invokespecial 3, 3), (4, .aload_n 0, 1), (5, .iconst 0, 1), (6, .putfield 11, 3), (9, .aload_n 0, 1), (10, .iconst 0, 1), (11, .putfield 15, 3), (14, .aload_n 0, 1), (15, .iconst 0, 1), (16, .putfield 18, 3), (19, .aload_n 0, 1), (20, .iconst 0, 1), (21, .putfield 21, 3), (24, .aload_n 0, 1), (25, .aload_n 1, 1), (26, .putfield 24, 3), (29, .return_, 1)] = true := by decide +kernel
theorem dX10_init_0 : decode cX10_init 0 = .ok (.aload_n 0, 1) := dk_at bX10_init_0 0 rfl
theorem dX10_init_1 : decode cX10_init 1 = .ok (.invokespecial 3, 3) := dk_at bX10_init_0 1 rfl
theorem dX10_init_4 : decode cX10_init 4 = .ok (.aload_n 0, 1) := dk_at bX10_init_0 2 rfl
theorem dX10_init_5 : decode cX10_init 5 = .ok (.iconst 0, 1) := dk_at bX10_init_0 3 rfl
theorem dX10_init_6 : decode cX10_init 6 = .ok (.putfield 11, 3) := dk_at bX10_init_0 4 rfl
theorem dX10_init_9 : decode cX10_init 9 = .ok (.aload_n 0, 1) := dk_at bX10_init_0 5 rfl
theorem dX10_init_10 : decode cX10_init 10 = .ok (.iconst 0, 1) := dk_at bX10_init_0 6 rfl
theorem dX10_init_11 : decode cX10_init 11 = .ok (.putfield 15, 3) := dk_at bX10_init_0 7 rfl
theorem dX10_init_14 : decode cX10_init 14 = .ok (.aload_n 0, 1) := dk_at bX10_init_0 8 rfl
theorem dX10_init_15 : decode cX10_init 15 = .ok (.iconst 0, 1) := dk_at bX10_init_0 9 rfl
theorem dX10_init_16 : decode cX10_init 16 = .ok (.putfield 18, 3) := dk_at bX10_init_0 10 rfl
theorem dX10_init_19 : decode cX10_init 19 = .ok (.aload_n 0, 1) := dk_at bX10_init_0 11 rfl
theorem dX10_init_20 : decode cX10_init 20 = .ok (.iconst 0, 1) := dk_at bX10_init_0 12 rfl
theorem dX10_init_21 : decode cX10_init 21 = .ok (.putfield 21, 3) := dk_at bX10_init_0 13 rfl
theorem dX10_init_24 : decode cX10_init 24 = .ok (.aload_n 0, 1) := dk_at bX10_init_0 14 rfl
theorem dX10_init_25 : decode cX10_init 25 = .ok (.aload_n 1, 1) := dk_at bX10_init_0 15 rfl
theorem dX10_init_26 : decode cX10_init 26 = .ok (.putfield 24, 3) := dk_at bX10_init_0 16 rfl
theorem dX10_init_29 : decode cX10_init 29 = .ok (.return_, 1) := dk_at bX10_init_0 17 rfl
set_option maxRecDepth 20000 in
theorem ggX10_restart_X10_advance : GoodIn wsX10_restart wsX10_advance := goodIn_r _ [6, 1, 7, 8, 9, 10, 11, 12, 5, 13, 14, 15, 16, 17, 18, 19, 20, 21, 22, 23, 24, 25, 26, 27, 28, 29, 30, 31, 32, 33, 34, 35, 36, 37, 38, 39, 40, 41, 42, 43, 44, 45, 46] rfl (by decide +kernel)
set_option maxRecDepth 20000 in
theorem gX10_restart_X10_advance : GoodIn wsX10_restart (wsV RX10 28 RX10 yX10_advance wsX10_advance) := goodIn_app (goodIn_r _ [2, 3, 4, 5] rfl (by decide +kernel)) ggX10_restart_X10_advance
theorem bX10_restart_0 : dk cX10_restart [(0, .aload_n 0, 1), (1, .iconst 0, 1), (2, .putfield 21, 3), (5, .aload_n 0, 1), (6, .invokevirtual 28, 3), (9, .return_, 1)] = true := by decide +kernel
theorem dX10_restart_0 : decode cX10_restart 0 = .ok (.aload_n 0, 1) := dk_at bX10_restart_0 0 rfl
theorem dX10_restart_1 : decode cX10_restart 1 = .ok (.iconst 0, 1) := dk_at bX10_restart_0 1 rfl
theorem dX10_restart_2 : decode cX10_restart 2 = .ok (.putfield 21, 3) := dk_at bX10_restart_0 2 rfl
theorem dX10_restart_5 : decode cX10_restart 5 = .ok (.aload_n 0, 1) := dk_at bX10_restart_0 3 rfl
theorem dX10_restart_6 : decode cX10_restart 6 = .ok (.invokevirtual 28, 3) := dk_at bX10_restart_0 4 rfl
theorem dX10_restart_9 : decode cX10_restart 9 = .ok (.return_, 1) := dk_at bX10_restart_0 5 rfl
set_option maxRecDepth 20000 in
theorem ggX10_advance_X10_skipBlanks : GoodIn wsX10_advance wsX10_skipBlanks := goodIn_r _ [9, 1, 3, 10, 11, 12, 13, 14, 15, 16, 17, 18, 19, 8, 20, 36, 37, 38, 39, 40, 41, 42] rfl (by decide +kernel)
set_option maxRecDepth 20000 in
theorem gX10_advance_X10_skipBlanks : GoodIn wsX10_advance (wsV RX10 31 RX10 yX10_skipBlanks wsX10_skipBlanks) := goodIn_app (goodIn_r _ [5, 6, 7, 8] rfl (by decide +kernel)) ggX10_advance_X10_skipBlanks
set_option maxRecDepth 20000 in
theorem ggX10_advance_X9_byteAt : GoodIn wsX10_advance wsX9_byteAt := goodIn_r _ [15, 16, 17, 41, 42] rfl (by decide +kernel)
set_option maxRecDepth 20000 in
theorem gX10_advance_X9_byteAt : GoodIn wsX10_advance (wsV RX10 34 RX9 yX9_byteAt wsX9_byteAt) := goodIn_app (goodIn_r _ [11, 12, 13, 14] rfl (by decide +kernel)) ggX10_advance_X9_byteAt
set_option maxRecDepth 20000 in
theorem ggX10_advance_X10_isLetter : GoodIn wsX10_advance wsX10_isLetter := goodIn_r _ [23] rfl (by decide +kernel)
set_option maxRecDepth 20000 in
theorem gX10_advance_X10_isLetter : GoodIn wsX10_advance (va_wsS RX10 40 yX10_isLetter wsX10_isLetter) := goodIn_app (goodIn_r _ [21, 22, 8] rfl (by decide +kernel)) ggX10_advance_X10_isLetter
set_option maxRecDepth 20000 in
theorem ggX10_advance_X10_readWord : GoodIn wsX10_advance wsX10_readWord := goodIn_r _ [27, 4, 1, 3, 10, 11, 12, 13, 14, 15, 16, 17, 21, 22, 8, 23, 36, 37, 38, 39, 40, 41, 42] rfl (by decide +kernel)
set_option maxRecDepth 20000 in
theorem gX10_advance_X10_readWord : GoodIn wsX10_advance (wsV RX10 44 RX10 yX10_readWord wsX10_readWord) := goodIn_app (goodIn_r _ [24, 25, 26, 8] rfl (by decide +kernel)) ggX10_advance_X10_readWord
set_option maxRecDepth 20000 in
theorem ggX10_advance_X10_isDigit : GoodIn wsX10_advance wsX10_isDigit := goodIn_r _ [30] rfl (by decide +kernel)
set_option maxRecDepth 20000 in
theorem gX10_advance_X10_isDigit : GoodIn wsX10_advance (va_wsS RX10 47 yX10_isDigit wsX10_isDigit) := goodIn_app (goodIn_r _ [28, 29, 8] rfl (by decide +kernel)) ggX10_advance_X10_isDigit
set_option maxRecDepth 20000 in
theorem ggX10_advance_X10_readNumber : GoodIn wsX10_advance wsX10_readNumber := goodIn_r _ [34, 35, 1, 3, 10, 2, 4, 11, 12, 13, 14, 15, 16, 17, 28, 29, 8, 30, 36, 37, 38, 39, 40, 41, 42] rfl (by decide +kernel)
set_option maxRecDepth 20000 in
theorem gX10_advance_X10_readNumber : GoodIn wsX10_advance (wsV RX10 50 RX10 yX10_readNumber wsX10_readNumber) := goodIn_app (goodIn_r _ [31, 32, 33, 8] rfl (by decide +kernel)) ggX10_advance_X10_readNumber
theorem bX10_advance_0 : dk cX10_advance [(0, .aload_n 0, 1), (1, .invokevirtual 31, 3), (4, .aload_n 0, 1), (5, .aload_n 0, 1), (6, .getfield 21, 3), (9, .putfield 15, 3), (12, .aload_n 0, 1), (13, .getfield 24, 3), (16, .aload_n 0, 1), (17, .getfield 15, 3), (20, .invokevirtual 34, 3), (23, .istore_n 1, 1), (24, .iload_n 1, 1), (25, .iconst (-1), 1), (26, .if_icmp .ne 11, 3), (29, .aload_n 0, 1), (30, .iconst 0, 1), (31, .putfield 11, 3), (34, .goto 56, 3), (37, .iload_n 1, 1), (38, .invokestatic 40, 3), (41, .ifCond .eq 10, 3), (44, .aload_n 0, 1), (45, .invokevirtual 44, 3), (48, .goto 42, 3), (51, .iload_n 1, 1), (52, .invokestatic 47, 3), (55, .ifCond .eq 10, 3), (58, .aload_n 0, 1), (59, .invokevirtual 50, 3), (62, .goto 28, 3), (65, .aload_n 0, 1), (66, .iload_n 1, 1), (67, .bipush 59, 2), (69, .if_icmp .ne 7, 3), (72, .iconst 3, 1), (73, .goto 4, 3), (76, .iconst 4, 1), (77, .putfield 11, 3), (80, .aload_n 0, 1)] = true := by decide +kernel
theorem dX10_advance_0 : decode cX10_advance 0 = .ok (.aload_n 0, 1) := dk_at bX10_advance_0 0 rfl
theorem dX10_advance_1 : decode cX10_advance 1 = .ok (.invokevirtual 31, 3) := dk_at bX10_advance_0 1 rfl
theorem dX10_advance_4 : decode cX10_advance 4 = .ok (.aload_n 0, 1) := dk_at bX10_advance_0 2 rfl
theorem dX10_advance_5 : decode cX10_advance 5 = .ok (.aload_n 0, 1) := dk_at bX10_advance_0 3 rfl
theorem dX10_advance_6 : decode cX10_advance 6 = .ok (.getfield 21, 3) := dk_at bX10_advance_0 4 rfl
theorem dX10_advance_9 : decode cX10_advance 9 = .ok (.putfield 15, 3) := dk_at bX10_advance_0 5 rfl
theorem dX10_advance_12 : decode cX10_advance 12 = .ok (.aload_n 0, 1) := dk_at bX10_advance_0 6 rfl
theorem dX10_advance_13 : decode cX10_advance 13 = .ok (.getfield 24, 3) := dk_at bX10_advance_0 7 rfl
theorem dX10_advance_16 : decode cX10_advance 16 = .ok (.aload_n 0, 1) := dk_at bX10_advance_0 8 rfl
theorem dX10_advance_17 : decode cX10_advance 17 = .ok (.getfield 15, 3) := dk_at bX10_advance_0 9 rfl
theorem dX10_advance_20 : decode cX10_advance 20 = .ok (.invokevirtual 34, 3) := dk_at bX10_advance_0 10 rfl
theorem dX10_advance_23 : decode cX10_advance 23 = .ok (.istore_n 1, 1) := dk_at bX10_advance_0 11 rfl
theorem dX10_advance_24 : decode cX10_advance 24 = .ok (.iload_n 1, 1) := dk_at bX10_advance_0 12 rfl
theorem dX10_advance_25 : decode cX10_advance 25 = .ok (.iconst (-1), 1) := dk_at bX10_advance_0 13 rfl
theorem dX10_advance_26 : decode cX10_advance 26 = .ok (.if_icmp .ne 11, 3) := dk_at bX10_advance_0 14 rfl
theorem dX10_advance_29 : decode cX10_advance 29 = .ok (.aload_n 0, 1) := dk_at bX10_advance_0 15 rfl
theorem dX10_advance_30 : decode cX10_advance 30 = .ok (.iconst 0, 1) := dk_at bX10_advance_0 16 rfl
theorem dX10_advance_31 : decode cX10_advance 31 = .ok (.putfield 11, 3) := dk_at bX10_advance_0 17 rfl
theorem dX10_advance_34 : decode cX10_advance 34 = .ok (.goto 56, 3) := dk_at bX10_advance_0 18 rfl
theorem dX10_advance_37 : decode cX10_advance 37 = .ok (.iload_n 1, 1) := dk_at bX10_advance_0 19 rfl
theorem dX10_advance_38 : decode cX10_advance 38 = .ok (.invokestatic 40, 3) := dk_at bX10_advance_0 20 rfl
theorem dX10_advance_41 : decode cX10_advance 41 = .ok (.ifCond .eq 10, 3) := dk_at bX10_advance_0 21 rfl
theorem dX10_advance_44 : decode cX10_advance 44 = .ok (.aload_n 0, 1) := dk_at bX10_advance_0 22 rfl
theorem dX10_advance_45 : decode cX10_advance 45 = .ok (.invokevirtual 44, 3) := dk_at bX10_advance_0 23 rfl
theorem dX10_advance_48 : decode cX10_advance 48 = .ok (.goto 42, 3) := dk_at bX10_advance_0 24 rfl
theorem dX10_advance_51 : decode cX10_advance 51 = .ok (.iload_n 1, 1) := dk_at bX10_advance_0 25 rfl
theorem dX10_advance_52 : decode cX10_advance 52 = .ok (.invokestatic 47, 3) := dk_at bX10_advance_0 26 rfl
theorem dX10_advance_55 : decode cX10_advance 55 = .ok (.ifCond .eq 10, 3) := dk_at bX10_advance_0 27 rfl
theorem dX10_advance_58 : decode cX10_advance 58 = .ok (.aload_n 0, 1) := dk_at bX10_advance_0 28 rfl
theorem dX10_advance_59 : decode cX10_advance 59 = .ok (.invokevirtual 50, 3) := dk_at bX10_advance_0 29 rfl
theorem dX10_advance_62 : decode cX10_advance 62 = .ok (.goto 28, 3) := dk_at bX10_advance_0 30 rfl
theorem dX10_advance_65 : decode cX10_advance 65 = .ok (.aload_n 0, 1) := dk_at bX10_advance_0 31 rfl
theorem dX10_advance_66 : decode cX10_advance 66 = .ok (.iload_n 1, 1) := dk_at bX10_advance_0 32 rfl
theorem dX10_advance_67 : decode cX10_advance 67 = .ok (.bipush 59, 2) := dk_at bX10_advance_0 33 rfl
theorem dX10_advance_69 : decode cX10_advance 69 = .ok (.if_icmp .ne 7, 3) := dk_at bX10_advance_0 34 rfl
theorem dX10_advance_72 : decode cX10_advance 72 = .ok (.iconst 3, 1) := dk_at bX10_advance_0 35 rfl
theorem dX10_advance_73 : decode cX10_advance 73 = .ok (.goto 4, 3) := dk_at bX10_advance_0 36 rfl
theorem dX10_advance_76 : decode cX10_advance 76 = .ok (.iconst 4, 1) := dk_at bX10_advance_0 37 rfl
theorem dX10_advance_77 : decode cX10_advance 77 = .ok (.putfield 11, 3) := dk_at bX10_advance_0 38 rfl
theorem dX10_advance_80 : decode cX10_advance 80 = .ok (.aload_n 0, 1) := dk_at bX10_advance_0 39 rfl
theorem bX10_advance_81 : dk cX10_advance [(81, .aload_n 0, 1), (82, .getfield 15, 3), (85, .iconst 1, 1), (86, .iadd, 1), (87, .putfield 21, 3), (90, .return_, 1)] = true := by decide +kernel
theorem dX10_advance_81 : decode cX10_advance 81 = .ok (.aload_n 0, 1) := dk_at bX10_advance_81 0 rfl
theorem dX10_advance_82 : decode cX10_advance 82 = .ok (.getfield 15, 3) := dk_at bX10_advance_81 1 rfl
theorem dX10_advance_85 : decode cX10_advance 85 = .ok (.iconst 1, 1) := dk_at bX10_advance_81 2 rfl
theorem dX10_advance_86 : decode cX10_advance 86 = .ok (.iadd, 1) := dk_at bX10_advance_81 3 rfl
theorem dX10_advance_87 : decode cX10_advance 87 = .ok (.putfield 21, 3) := dk_at bX10_advance_81 4 rfl
theorem dX10_advance_90 : decode cX10_advance 90 = .ok (.return_, 1) := dk_at bX10_advance_81 5 rfl
set_option maxRecDepth 20000 in
theorem ggX10_spells_J0_length_8abf5 : GoodIn wsX10_spells wsJ0_length_8abf5 := goodIn_r _ [9, 10, 11, 12, 13, 8, 14, 15, 16] rfl (by decide +kernel)
set_option maxRecDepth 20000 in
theorem gX10_spells_J0_length_8abf5 : GoodIn wsX10_spells (wsV RX10 53 RJ0 yJ0_length_8abf5 wsJ0_length_8abf5) := goodIn_app (goodIn_r _ [5, 6, 7, 8] rfl (by decide +kernel)) ggX10_spells_J0_length_8abf5
set_option maxRecDepth 20000 in
theorem ggX10_spells_X9_byteAt : GoodIn wsX10_spells wsX9_byteAt := goodIn_r _ [21, 22, 23, 66, 67] rfl (by decide +kernel)
set_option maxRecDepth 20000 in
theorem gX10_spells_X9_byteAt : GoodIn wsX10_spells (wsV RX10 34 RX9 yX9_byteAt wsX9_byteAt) := goodIn_app (goodIn_r _ [17, 18, 19, 20] rfl (by decide +kernel)) ggX10_spells_X9_byteAt
set_option maxRecDepth 20000 in
theorem ggX10_spells_J0_charAt_5068e : GoodIn wsX10_spells wsJ0_charAt_5068e := goodIn_r _ [27, 10, 28, 29, 30, 8, 31, 15, 16, 32, 33, 34, 35, 36, 37, 38, 39, 40, 41, 42, 43, 44, 45, 46, 47, 48, 49, 50, 51, 52, 53, 54, 55, 56, 57, 58, 59, 60] rfl (by decide +kernel)
set_option maxRecDepth 20000 in
theorem gX10_spells_J0_charAt_5068e : GoodIn wsX10_spells (wsV RX10 59 RJ0 yJ0_charAt_5068e wsJ0_charAt_5068e) := goodIn_app (goodIn_r _ [24, 25, 26, 8] rfl (by decide +kernel)) ggX10_spells_J0_charAt_5068e
theorem bX10_spells_0 : dk cX10_spells [(0, .aload_n 0, 1), (1, .getfield 11, 3), (4, .iconst 1, 1), (5, .if_icmp .ne 19, 3), (8, .aload_n 0, 1), (9, .getfield 21, 3), (12, .aload_n 0, 1), (13, .getfield 15, 3), (16, .isub, 1), (17, .aload_n 1, 1), (18, .invokevirtual 53, 3), (21, .if_icmp .eq 5, 3), (24, .iconst 0, 1), (25, .ireturn, 1), (26, .iconst 0, 1), (27, .istore_n 2, 1), (28, .iload_n 2, 1), (29, .aload_n 1, 1), (30, .invokevirtual 53, 3), (33, .if_icmp .ge 32, 3), (36, .aload_n 0, 1), (37, .getfield 24, 3), (40, .aload_n 0, 1), (41, .getfield 15, 3), (44, .iload_n 2, 1), (45, .iadd, 1), (46, .invokevirtual 34, 3), (49, .aload_n 1, 1), (50, .iload_n 2, 1), (51, .invokevirtual 59, 3), (54, .if_icmp .eq 5, 3), (57, .iconst 0, 1), (58, .ireturn, 1), (59, .iinc 2 1, 3), (62, .goto (-34), 3), (65, .iconst 1, 1), (66, .ireturn, 1)] = true := by decide +kernel
theorem dX10_spells_0 : decode cX10_spells 0 = .ok (.aload_n 0, 1) := dk_at bX10_spells_0 0 rfl
theorem dX10_spells_1 : decode cX10_spells 1 = .ok (.getfield 11, 3) := dk_at bX10_spells_0 1 rfl
theorem dX10_spells_4 : decode cX10_spells 4 = .ok (.iconst 1, 1) := dk_at bX10_spells_0 2 rfl
theorem dX10_spells_5 : decode cX10_spells 5 = .ok (.if_icmp .ne 19, 3) := dk_at bX10_spells_0 3 rfl
theorem dX10_spells_8 : decode cX10_spells 8 = .ok (.aload_n 0, 1) := dk_at bX10_spells_0 4 rfl
theorem dX10_spells_9 : decode cX10_spells 9 = .ok (.getfield 21, 3) := dk_at bX10_spells_0 5 rfl
theorem dX10_spells_12 : decode cX10_spells 12 = .ok (.aload_n 0, 1) := dk_at bX10_spells_0 6 rfl
theorem dX10_spells_13 : decode cX10_spells 13 = .ok (.getfield 15, 3) := dk_at bX10_spells_0 7 rfl
theorem dX10_spells_16 : decode cX10_spells 16 = .ok (.isub, 1) := dk_at bX10_spells_0 8 rfl
theorem dX10_spells_17 : decode cX10_spells 17 = .ok (.aload_n 1, 1) := dk_at bX10_spells_0 9 rfl
theorem dX10_spells_18 : decode cX10_spells 18 = .ok (.invokevirtual 53, 3) := dk_at bX10_spells_0 10 rfl
theorem dX10_spells_21 : decode cX10_spells 21 = .ok (.if_icmp .eq 5, 3) := dk_at bX10_spells_0 11 rfl
theorem dX10_spells_24 : decode cX10_spells 24 = .ok (.iconst 0, 1) := dk_at bX10_spells_0 12 rfl
theorem dX10_spells_25 : decode cX10_spells 25 = .ok (.ireturn, 1) := dk_at bX10_spells_0 13 rfl
theorem dX10_spells_26 : decode cX10_spells 26 = .ok (.iconst 0, 1) := dk_at bX10_spells_0 14 rfl
theorem dX10_spells_27 : decode cX10_spells 27 = .ok (.istore_n 2, 1) := dk_at bX10_spells_0 15 rfl
theorem dX10_spells_28 : decode cX10_spells 28 = .ok (.iload_n 2, 1) := dk_at bX10_spells_0 16 rfl
theorem dX10_spells_29 : decode cX10_spells 29 = .ok (.aload_n 1, 1) := dk_at bX10_spells_0 17 rfl
theorem dX10_spells_30 : decode cX10_spells 30 = .ok (.invokevirtual 53, 3) := dk_at bX10_spells_0 18 rfl
theorem dX10_spells_33 : decode cX10_spells 33 = .ok (.if_icmp .ge 32, 3) := dk_at bX10_spells_0 19 rfl
theorem dX10_spells_36 : decode cX10_spells 36 = .ok (.aload_n 0, 1) := dk_at bX10_spells_0 20 rfl
theorem dX10_spells_37 : decode cX10_spells 37 = .ok (.getfield 24, 3) := dk_at bX10_spells_0 21 rfl
theorem dX10_spells_40 : decode cX10_spells 40 = .ok (.aload_n 0, 1) := dk_at bX10_spells_0 22 rfl
theorem dX10_spells_41 : decode cX10_spells 41 = .ok (.getfield 15, 3) := dk_at bX10_spells_0 23 rfl
theorem dX10_spells_44 : decode cX10_spells 44 = .ok (.iload_n 2, 1) := dk_at bX10_spells_0 24 rfl
theorem dX10_spells_45 : decode cX10_spells 45 = .ok (.iadd, 1) := dk_at bX10_spells_0 25 rfl
theorem dX10_spells_46 : decode cX10_spells 46 = .ok (.invokevirtual 34, 3) := dk_at bX10_spells_0 26 rfl
theorem dX10_spells_49 : decode cX10_spells 49 = .ok (.aload_n 1, 1) := dk_at bX10_spells_0 27 rfl
theorem dX10_spells_50 : decode cX10_spells 50 = .ok (.iload_n 2, 1) := dk_at bX10_spells_0 28 rfl
theorem dX10_spells_51 : decode cX10_spells 51 = .ok (.invokevirtual 59, 3) := dk_at bX10_spells_0 29 rfl
theorem dX10_spells_54 : decode cX10_spells 54 = .ok (.if_icmp .eq 5, 3) := dk_at bX10_spells_0 30 rfl
theorem dX10_spells_57 : decode cX10_spells 57 = .ok (.iconst 0, 1) := dk_at bX10_spells_0 31 rfl
theorem dX10_spells_58 : decode cX10_spells 58 = .ok (.ireturn, 1) := dk_at bX10_spells_0 32 rfl
theorem dX10_spells_59 : decode cX10_spells 59 = .ok (.iinc 2 1, 3) := dk_at bX10_spells_0 33 rfl
theorem dX10_spells_62 : decode cX10_spells 62 = .ok (.goto (-34), 3) := dk_at bX10_spells_0 34 rfl
theorem dX10_spells_65 : decode cX10_spells 65 = .ok (.iconst 1, 1) := dk_at bX10_spells_0 35 rfl
theorem dX10_spells_66 : decode cX10_spells 66 = .ok (.ireturn, 1) := dk_at bX10_spells_0 36 rfl
set_option maxRecDepth 20000 in
theorem ggX10_skipBlanks_X9_byteAt : GoodIn wsX10_skipBlanks wsX9_byteAt := goodIn_r _ [8, 9, 10, 20, 21] rfl (by decide +kernel)
set_option maxRecDepth 20000 in
theorem gX10_skipBlanks_X9_byteAt : GoodIn wsX10_skipBlanks (wsV RX10 34 RX9 yX9_byteAt wsX9_byteAt) := goodIn_app (goodIn_r _ [4, 5, 6, 7] rfl (by decide +kernel)) ggX10_skipBlanks_X9_byteAt
set_option maxRecDepth 20000 in
theorem ggX10_skipBlanks_X10_isBlank : GoodIn wsX10_skipBlanks wsX10_isBlank := goodIn_r _ [14] rfl (by decide +kernel)
set_option maxRecDepth 20000 in
theorem gX10_skipBlanks_X10_isBlank : GoodIn wsX10_skipBlanks (va_wsS RX10 65 yX10_isBlank wsX10_isBlank) := goodIn_app (goodIn_r _ [11, 12, 13] rfl (by decide +kernel)) ggX10_skipBlanks_X10_isBlank
theorem bX10_skipBlanks_0 : dk cX10_skipBlanks [(0, .aload_n 0, 1), (1, .getfield 21, 3), (4, .aload_n 0, 1), (5, .getfield 24, 3), (8, .getfield 63, 3), (11, .if_icmp .ge 33, 3), (14, .aload_n 0, 1), (15, .getfield 24, 3), (18, .aload_n 0, 1), (19, .getfield 21, 3), (22, .invokevirtual 34, 3), (25, .invokestatic 65, 3), (28, .ifCond .eq 16, 3), (31, .aload_n 0, 1), (32, .dup, 1), (33, .getfield 21, 3), (36, .iconst 1, 1), (37, .iadd, 1), (38, .putfield 21, 3), (41, .goto (-41), 3), (44, .return_, 1)] = true := by decide +kernel
theorem dX10_skipBlanks_0 : decode cX10_skipBlanks 0 = .ok (.aload_n 0, 1) := dk_at bX10_skipBlanks_0 0 rfl
theorem dX10_skipBlanks_1 : decode cX10_skipBlanks 1 = .ok (.getfield 21, 3) := dk_at bX10_skipBlanks_0 1 rfl
theorem dX10_skipBlanks_4 : decode cX10_skipBlanks 4 = .ok (.aload_n 0, 1) := dk_at bX10_skipBlanks_0 2 rfl
theorem dX10_skipBlanks_5 : decode cX10_skipBlanks 5 = .ok (.getfield 24, 3) := dk_at bX10_skipBlanks_0 3 rfl
theorem dX10_skipBlanks_8 : decode cX10_skipBlanks 8 = .ok (.getfield 63, 3) := dk_at bX10_skipBlanks_0 4 rfl
theorem dX10_skipBlanks_11 : decode cX10_skipBlanks 11 = .ok (.if_icmp .ge 33, 3) := dk_at bX10_skipBlanks_0 5 rfl
theorem dX10_skipBlanks_14 : decode cX10_skipBlanks 14 = .ok (.aload_n 0, 1) := dk_at bX10_skipBlanks_0 6 rfl
theorem dX10_skipBlanks_15 : decode cX10_skipBlanks 15 = .ok (.getfield 24, 3) := dk_at bX10_skipBlanks_0 7 rfl
theorem dX10_skipBlanks_18 : decode cX10_skipBlanks 18 = .ok (.aload_n 0, 1) := dk_at bX10_skipBlanks_0 8 rfl
theorem dX10_skipBlanks_19 : decode cX10_skipBlanks 19 = .ok (.getfield 21, 3) := dk_at bX10_skipBlanks_0 9 rfl
theorem dX10_skipBlanks_22 : decode cX10_skipBlanks 22 = .ok (.invokevirtual 34, 3) := dk_at bX10_skipBlanks_0 10 rfl
theorem dX10_skipBlanks_25 : decode cX10_skipBlanks 25 = .ok (.invokestatic 65, 3) := dk_at bX10_skipBlanks_0 11 rfl
theorem dX10_skipBlanks_28 : decode cX10_skipBlanks 28 = .ok (.ifCond .eq 16, 3) := dk_at bX10_skipBlanks_0 12 rfl
theorem dX10_skipBlanks_31 : decode cX10_skipBlanks 31 = .ok (.aload_n 0, 1) := dk_at bX10_skipBlanks_0 13 rfl
theorem dX10_skipBlanks_32 : decode cX10_skipBlanks 32 = .ok (.dup, 1) := dk_at bX10_skipBlanks_0 14 rfl
theorem dX10_skipBlanks_33 : decode cX10_skipBlanks 33 = .ok (.getfield 21, 3) := dk_at bX10_skipBlanks_0 15 rfl
theorem dX10_skipBlanks_36 : decode cX10_skipBlanks 36 = .ok (.iconst 1, 1) := dk_at bX10_skipBlanks_0 16 rfl
theorem dX10_skipBlanks_37 : decode cX10_skipBlanks 37 = .ok (.iadd, 1) := dk_at bX10_skipBlanks_0 17 rfl
theorem dX10_skipBlanks_38 : decode cX10_skipBlanks 38 = .ok (.putfield 21, 3) := dk_at bX10_skipBlanks_0 18 rfl
theorem dX10_skipBlanks_41 : decode cX10_skipBlanks 41 = .ok (.goto (-41), 3) := dk_at bX10_skipBlanks_0 19 rfl
theorem dX10_skipBlanks_44 : decode cX10_skipBlanks 44 = .ok (.return_, 1) := dk_at bX10_skipBlanks_0 20 rfl
set_option maxRecDepth 20000 in
theorem ggX10_readWord_X9_byteAt : GoodIn wsX10_readWord wsX9_byteAt := goodIn_r _ [9, 10, 11, 21, 22] rfl (by decide +kernel)
set_option maxRecDepth 20000 in
theorem gX10_readWord_X9_byteAt : GoodIn wsX10_readWord (wsV RX10 34 RX9 yX9_byteAt wsX9_byteAt) := goodIn_app (goodIn_r _ [5, 6, 7, 8] rfl (by decide +kernel)) ggX10_readWord_X9_byteAt
set_option maxRecDepth 20000 in
theorem ggX10_readWord_X10_isLetter : GoodIn wsX10_readWord wsX10_isLetter := goodIn_r _ [15] rfl (by decide +kernel)
set_option maxRecDepth 20000 in
theorem gX10_readWord_X10_isLetter : GoodIn wsX10_readWord (va_wsS RX10 40 yX10_isLetter wsX10_isLetter) := goodIn_app (goodIn_r _ [12, 13, 14] rfl (by decide +kernel)) ggX10_readWord_X10_isLetter
theorem bX10_readWord_0 : dk cX10_readWord [(0, .aload_n 0, 1), (1, .iconst 1, 1), (2, .putfield 11, 3), (5, .aload_n 0, 1), (6, .getfield 21, 3), (9, .aload_n 0, 1), (10, .getfield 24, 3), (13, .getfield 63, 3), (16, .if_icmp .ge 33, 3), (19, .aload_n 0, 1), (20, .getfield 24, 3), (23, .aload_n 0, 1), (24, .getfield 21, 3), (27, .invokevirtual 34, 3), (30, .invokestatic 40, 3), (33, .ifCond .eq 16, 3), (36, .aload_n 0, 1), (37, .dup, 1), (38, .getfield 21, 3), (41, .iconst 1, 1), (42, .iadd, 1), (43, .putfield 21, 3), (46, .goto (-41), 3), (49, .return_, 1)] = true := by decide +kernel
theorem dX10_readWord_0 : decode cX10_readWord 0 = .ok (.aload_n 0, 1) := dk_at bX10_readWord_0 0 rfl
theorem dX10_readWord_1 : decode cX10_readWord 1 = .ok (.iconst 1, 1) := dk_at bX10_readWord_0 1 rfl
theorem dX10_readWord_2 : decode cX10_readWord 2 = .ok (.putfield 11, 3) := dk_at bX10_readWord_0 2 rfl
theorem dX10_readWord_5 : decode cX10_readWord 5 = .ok (.aload_n 0, 1) := dk_at bX10_readWord_0 3 rfl
theorem dX10_readWord_6 : decode cX10_readWord 6 = .ok (.getfield 21, 3) := dk_at bX10_readWord_0 4 rfl
theorem dX10_readWord_9 : decode cX10_readWord 9 = .ok (.aload_n 0, 1) := dk_at bX10_readWord_0 5 rfl
theorem dX10_readWord_10 : decode cX10_readWord 10 = .ok (.getfield 24, 3) := dk_at bX10_readWord_0 6 rfl
theorem dX10_readWord_13 : decode cX10_readWord 13 = .ok (.getfield 63, 3) := dk_at bX10_readWord_0 7 rfl
theorem dX10_readWord_16 : decode cX10_readWord 16 = .ok (.if_icmp .ge 33, 3) := dk_at bX10_readWord_0 8 rfl
theorem dX10_readWord_19 : decode cX10_readWord 19 = .ok (.aload_n 0, 1) := dk_at bX10_readWord_0 9 rfl
theorem dX10_readWord_20 : decode cX10_readWord 20 = .ok (.getfield 24, 3) := dk_at bX10_readWord_0 10 rfl
theorem dX10_readWord_23 : decode cX10_readWord 23 = .ok (.aload_n 0, 1) := dk_at bX10_readWord_0 11 rfl
theorem dX10_readWord_24 : decode cX10_readWord 24 = .ok (.getfield 21, 3) := dk_at bX10_readWord_0 12 rfl
theorem dX10_readWord_27 : decode cX10_readWord 27 = .ok (.invokevirtual 34, 3) := dk_at bX10_readWord_0 13 rfl
theorem dX10_readWord_30 : decode cX10_readWord 30 = .ok (.invokestatic 40, 3) := dk_at bX10_readWord_0 14 rfl
theorem dX10_readWord_33 : decode cX10_readWord 33 = .ok (.ifCond .eq 16, 3) := dk_at bX10_readWord_0 15 rfl
theorem dX10_readWord_36 : decode cX10_readWord 36 = .ok (.aload_n 0, 1) := dk_at bX10_readWord_0 16 rfl
theorem dX10_readWord_37 : decode cX10_readWord 37 = .ok (.dup, 1) := dk_at bX10_readWord_0 17 rfl
theorem dX10_readWord_38 : decode cX10_readWord 38 = .ok (.getfield 21, 3) := dk_at bX10_readWord_0 18 rfl
theorem dX10_readWord_41 : decode cX10_readWord 41 = .ok (.iconst 1, 1) := dk_at bX10_readWord_0 19 rfl
theorem dX10_readWord_42 : decode cX10_readWord 42 = .ok (.iadd, 1) := dk_at bX10_readWord_0 20 rfl
theorem dX10_readWord_43 : decode cX10_readWord 43 = .ok (.putfield 21, 3) := dk_at bX10_readWord_0 21 rfl
theorem dX10_readWord_46 : decode cX10_readWord 46 = .ok (.goto (-41), 3) := dk_at bX10_readWord_0 22 rfl
theorem dX10_readWord_49 : decode cX10_readWord 49 = .ok (.return_, 1) := dk_at bX10_readWord_0 23 rfl
set_option maxRecDepth 20000 in
theorem ggX10_readNumber_X9_byteAt : GoodIn wsX10_readNumber wsX9_byteAt := goodIn_r _ [11, 12, 13, 23, 24] rfl (by decide +kernel)
set_option maxRecDepth 20000 in
theorem gX10_readNumber_X9_byteAt : GoodIn wsX10_readNumber (wsV RX10 34 RX9 yX9_byteAt wsX9_byteAt) := goodIn_app (goodIn_r _ [7, 8, 9, 10] rfl (by decide +kernel)) ggX10_readNumber_X9_byteAt
set_option maxRecDepth 20000 in
theorem ggX10_readNumber_X10_isDigit : GoodIn wsX10_readNumber wsX10_isDigit := goodIn_r _ [17] rfl (by decide +kernel)
set_option maxRecDepth 20000 in
theorem gX10_readNumber_X10_isDigit : GoodIn wsX10_readNumber (va_wsS RX10 47 yX10_isDigit wsX10_isDigit) := goodIn_app (goodIn_r _ [14, 15, 16] rfl (by decide +kernel)) ggX10_readNumber_X10_isDigit
theorem bX10_readNumber_0 : dk cX10_readNumber [(0, .aload_n 0, 1), (1, .iconst 0, 1), (2, .putfield 18, 3), (5, .aload_n 0, 1), (6, .getfield 21, 3), (9, .aload_n 0, 1), (10, .getfield 24, 3), (13, .getfield 63, 3), (16, .if_icmp .ge 72, 3), (19, .aload_n 0, 1), (20, .getfield 21, 3), (23, .aload_n 0, 1), (24, .getfield 15, 3), (27, .isub, 1), (28, .iconst 5, 1), (29, .if_icmp .ge 59, 3), (32, .aload_n 0, 1), (33, .getfield 24, 3), (36, .aload_n 0, 1), (37, .getfield 21, 3), (40, .invokevirtual 34, 3), (43, .invokestatic 47, 3), (46, .ifCond .eq 42, 3), (49, .aload_n 0, 1), (50, .bipush 10, 2), (52, .aload_n 0, 1), (53, .getfield 18, 3), (56, .imul, 1), (57, .aload_n 0, 1), (58, .getfield 24, 3), (61, .aload_n 0, 1), (62, .getfield 21, 3), (65, .invokevirtual 34, 3), (68, .iadd, 1), (69, .bipush 48, 2), (71, .isub, 1), (72, .putfield 18, 3), (75, .aload_n 0, 1), (76, .dup, 1), (77, .getfield 21, 3)] = true := by decide +kernel
theorem dX10_readNumber_0 : decode cX10_readNumber 0 = .ok (.aload_n 0, 1) := dk_at bX10_readNumber_0 0 rfl
theorem dX10_readNumber_1 : decode cX10_readNumber 1 = .ok (.iconst 0, 1) := dk_at bX10_readNumber_0 1 rfl
theorem dX10_readNumber_2 : decode cX10_readNumber 2 = .ok (.putfield 18, 3) := dk_at bX10_readNumber_0 2 rfl
theorem dX10_readNumber_5 : decode cX10_readNumber 5 = .ok (.aload_n 0, 1) := dk_at bX10_readNumber_0 3 rfl
theorem dX10_readNumber_6 : decode cX10_readNumber 6 = .ok (.getfield 21, 3) := dk_at bX10_readNumber_0 4 rfl
theorem dX10_readNumber_9 : decode cX10_readNumber 9 = .ok (.aload_n 0, 1) := dk_at bX10_readNumber_0 5 rfl
theorem dX10_readNumber_10 : decode cX10_readNumber 10 = .ok (.getfield 24, 3) := dk_at bX10_readNumber_0 6 rfl
theorem dX10_readNumber_13 : decode cX10_readNumber 13 = .ok (.getfield 63, 3) := dk_at bX10_readNumber_0 7 rfl
theorem dX10_readNumber_16 : decode cX10_readNumber 16 = .ok (.if_icmp .ge 72, 3) := dk_at bX10_readNumber_0 8 rfl
theorem dX10_readNumber_19 : decode cX10_readNumber 19 = .ok (.aload_n 0, 1) := dk_at bX10_readNumber_0 9 rfl
theorem dX10_readNumber_20 : decode cX10_readNumber 20 = .ok (.getfield 21, 3) := dk_at bX10_readNumber_0 10 rfl
theorem dX10_readNumber_23 : decode cX10_readNumber 23 = .ok (.aload_n 0, 1) := dk_at bX10_readNumber_0 11 rfl
theorem dX10_readNumber_24 : decode cX10_readNumber 24 = .ok (.getfield 15, 3) := dk_at bX10_readNumber_0 12 rfl
theorem dX10_readNumber_27 : decode cX10_readNumber 27 = .ok (.isub, 1) := dk_at bX10_readNumber_0 13 rfl
theorem dX10_readNumber_28 : decode cX10_readNumber 28 = .ok (.iconst 5, 1) := dk_at bX10_readNumber_0 14 rfl
theorem dX10_readNumber_29 : decode cX10_readNumber 29 = .ok (.if_icmp .ge 59, 3) := dk_at bX10_readNumber_0 15 rfl
theorem dX10_readNumber_32 : decode cX10_readNumber 32 = .ok (.aload_n 0, 1) := dk_at bX10_readNumber_0 16 rfl
theorem dX10_readNumber_33 : decode cX10_readNumber 33 = .ok (.getfield 24, 3) := dk_at bX10_readNumber_0 17 rfl
theorem dX10_readNumber_36 : decode cX10_readNumber 36 = .ok (.aload_n 0, 1) := dk_at bX10_readNumber_0 18 rfl
theorem dX10_readNumber_37 : decode cX10_readNumber 37 = .ok (.getfield 21, 3) := dk_at bX10_readNumber_0 19 rfl
theorem dX10_readNumber_40 : decode cX10_readNumber 40 = .ok (.invokevirtual 34, 3) := dk_at bX10_readNumber_0 20 rfl
theorem dX10_readNumber_43 : decode cX10_readNumber 43 = .ok (.invokestatic 47, 3) := dk_at bX10_readNumber_0 21 rfl
theorem dX10_readNumber_46 : decode cX10_readNumber 46 = .ok (.ifCond .eq 42, 3) := dk_at bX10_readNumber_0 22 rfl
theorem dX10_readNumber_49 : decode cX10_readNumber 49 = .ok (.aload_n 0, 1) := dk_at bX10_readNumber_0 23 rfl
theorem dX10_readNumber_50 : decode cX10_readNumber 50 = .ok (.bipush 10, 2) := dk_at bX10_readNumber_0 24 rfl
theorem dX10_readNumber_52 : decode cX10_readNumber 52 = .ok (.aload_n 0, 1) := dk_at bX10_readNumber_0 25 rfl
theorem dX10_readNumber_53 : decode cX10_readNumber 53 = .ok (.getfield 18, 3) := dk_at bX10_readNumber_0 26 rfl
theorem dX10_readNumber_56 : decode cX10_readNumber 56 = .ok (.imul, 1) := dk_at bX10_readNumber_0 27 rfl
theorem dX10_readNumber_57 : decode cX10_readNumber 57 = .ok (.aload_n 0, 1) := dk_at bX10_readNumber_0 28 rfl
theorem dX10_readNumber_58 : decode cX10_readNumber 58 = .ok (.getfield 24, 3) := dk_at bX10_readNumber_0 29 rfl
theorem dX10_readNumber_61 : decode cX10_readNumber 61 = .ok (.aload_n 0, 1) := dk_at bX10_readNumber_0 30 rfl
theorem dX10_readNumber_62 : decode cX10_readNumber 62 = .ok (.getfield 21, 3) := dk_at bX10_readNumber_0 31 rfl
theorem dX10_readNumber_65 : decode cX10_readNumber 65 = .ok (.invokevirtual 34, 3) := dk_at bX10_readNumber_0 32 rfl
theorem dX10_readNumber_68 : decode cX10_readNumber 68 = .ok (.iadd, 1) := dk_at bX10_readNumber_0 33 rfl
theorem dX10_readNumber_69 : decode cX10_readNumber 69 = .ok (.bipush 48, 2) := dk_at bX10_readNumber_0 34 rfl
theorem dX10_readNumber_71 : decode cX10_readNumber 71 = .ok (.isub, 1) := dk_at bX10_readNumber_0 35 rfl
theorem dX10_readNumber_72 : decode cX10_readNumber 72 = .ok (.putfield 18, 3) := dk_at bX10_readNumber_0 36 rfl
theorem dX10_readNumber_75 : decode cX10_readNumber 75 = .ok (.aload_n 0, 1) := dk_at bX10_readNumber_0 37 rfl
theorem dX10_readNumber_76 : decode cX10_readNumber 76 = .ok (.dup, 1) := dk_at bX10_readNumber_0 38 rfl
theorem dX10_readNumber_77 : decode cX10_readNumber 77 = .ok (.getfield 21, 3) := dk_at bX10_readNumber_0 39 rfl
theorem bX10_readNumber_80 : dk cX10_readNumber [(80, .iconst 1, 1), (81, .iadd, 1), (82, .putfield 21, 3), (85, .goto (-80), 3), (88, .aload_n 0, 1), (89, .aload_n 0, 1), (90, .getfield 21, 3), (93, .aload_n 0, 1), (94, .getfield 15, 3), (97, .isub, 1), (98, .iconst 4, 1), (99, .if_icmp .le 7, 3), (102, .iconst 4, 1), (103, .goto 4, 3), (106, .iconst 2, 1), (107, .putfield 11, 3), (110, .return_, 1)] = true := by decide +kernel
theorem dX10_readNumber_80 : decode cX10_readNumber 80 = .ok (.iconst 1, 1) := dk_at bX10_readNumber_80 0 rfl
theorem dX10_readNumber_81 : decode cX10_readNumber 81 = .ok (.iadd, 1) := dk_at bX10_readNumber_80 1 rfl
theorem dX10_readNumber_82 : decode cX10_readNumber 82 = .ok (.putfield 21, 3) := dk_at bX10_readNumber_80 2 rfl
theorem dX10_readNumber_85 : decode cX10_readNumber 85 = .ok (.goto (-80), 3) := dk_at bX10_readNumber_80 3 rfl
theorem dX10_readNumber_88 : decode cX10_readNumber 88 = .ok (.aload_n 0, 1) := dk_at bX10_readNumber_80 4 rfl
theorem dX10_readNumber_89 : decode cX10_readNumber 89 = .ok (.aload_n 0, 1) := dk_at bX10_readNumber_80 5 rfl
theorem dX10_readNumber_90 : decode cX10_readNumber 90 = .ok (.getfield 21, 3) := dk_at bX10_readNumber_80 6 rfl
theorem dX10_readNumber_93 : decode cX10_readNumber 93 = .ok (.aload_n 0, 1) := dk_at bX10_readNumber_80 7 rfl
theorem dX10_readNumber_94 : decode cX10_readNumber 94 = .ok (.getfield 15, 3) := dk_at bX10_readNumber_80 8 rfl
theorem dX10_readNumber_97 : decode cX10_readNumber 97 = .ok (.isub, 1) := dk_at bX10_readNumber_80 9 rfl
theorem dX10_readNumber_98 : decode cX10_readNumber 98 = .ok (.iconst 4, 1) := dk_at bX10_readNumber_80 10 rfl
theorem dX10_readNumber_99 : decode cX10_readNumber 99 = .ok (.if_icmp .le 7, 3) := dk_at bX10_readNumber_80 11 rfl
theorem dX10_readNumber_102 : decode cX10_readNumber 102 = .ok (.iconst 4, 1) := dk_at bX10_readNumber_80 12 rfl
theorem dX10_readNumber_103 : decode cX10_readNumber 103 = .ok (.goto 4, 3) := dk_at bX10_readNumber_80 13 rfl
theorem dX10_readNumber_106 : decode cX10_readNumber 106 = .ok (.iconst 2, 1) := dk_at bX10_readNumber_80 14 rfl
theorem dX10_readNumber_107 : decode cX10_readNumber 107 = .ok (.putfield 11, 3) := dk_at bX10_readNumber_80 15 rfl
theorem dX10_readNumber_110 : decode cX10_readNumber 110 = .ok (.return_, 1) := dk_at bX10_readNumber_80 16 rfl
theorem bX10_isBlank_0 : dk cX10_isBlank [(0, .iload_n 0, 1), (1, .bipush 32, 2), (3, .if_icmp .eq 9, 3), (6, .iload_n 0, 1), (7, .bipush 10, 2), (9, .if_icmp .ne 7, 3), (12, .iconst 1, 1), (13, .goto 4, 3), (16, .iconst 0, 1), (17, .ireturn, 1)] = true := by decide +kernel
theorem dX10_isBlank_0 : decode cX10_isBlank 0 = .ok (.iload_n 0, 1) := dk_at bX10_isBlank_0 0 rfl
theorem dX10_isBlank_1 : decode cX10_isBlank 1 = .ok (.bipush 32, 2) := dk_at bX10_isBlank_0 1 rfl
theorem dX10_isBlank_3 : decode cX10_isBlank 3 = .ok (.if_icmp .eq 9, 3) := dk_at bX10_isBlank_0 2 rfl
theorem dX10_isBlank_6 : decode cX10_isBlank 6 = .ok (.iload_n 0, 1) := dk_at bX10_isBlank_0 3 rfl
theorem dX10_isBlank_7 : decode cX10_isBlank 7 = .ok (.bipush 10, 2) := dk_at bX10_isBlank_0 4 rfl
theorem dX10_isBlank_9 : decode cX10_isBlank 9 = .ok (.if_icmp .ne 7, 3) := dk_at bX10_isBlank_0 5 rfl
theorem dX10_isBlank_12 : decode cX10_isBlank 12 = .ok (.iconst 1, 1) := dk_at bX10_isBlank_0 6 rfl
theorem dX10_isBlank_13 : decode cX10_isBlank 13 = .ok (.goto 4, 3) := dk_at bX10_isBlank_0 7 rfl
theorem dX10_isBlank_16 : decode cX10_isBlank 16 = .ok (.iconst 0, 1) := dk_at bX10_isBlank_0 8 rfl
theorem dX10_isBlank_17 : decode cX10_isBlank 17 = .ok (.ireturn, 1) := dk_at bX10_isBlank_0 9 rfl
theorem bX10_isLetter_0 : dk cX10_isLetter [(0, .iload_n 0, 1), (1, .bipush 97, 2), (3, .if_icmp .lt 13, 3), (6, .iload_n 0, 1), (7, .bipush 122, 2), (9, .if_icmp .gt 7, 3), (12, .iconst 1, 1), (13, .goto 4, 3), (16, .iconst 0, 1), (17, .ireturn, 1)] = true := by decide +kernel
theorem dX10_isLetter_0 : decode cX10_isLetter 0 = .ok (.iload_n 0, 1) := dk_at bX10_isLetter_0 0 rfl
theorem dX10_isLetter_1 : decode cX10_isLetter 1 = .ok (.bipush 97, 2) := dk_at bX10_isLetter_0 1 rfl
theorem dX10_isLetter_3 : decode cX10_isLetter 3 = .ok (.if_icmp .lt 13, 3) := dk_at bX10_isLetter_0 2 rfl
theorem dX10_isLetter_6 : decode cX10_isLetter 6 = .ok (.iload_n 0, 1) := dk_at bX10_isLetter_0 3 rfl
theorem dX10_isLetter_7 : decode cX10_isLetter 7 = .ok (.bipush 122, 2) := dk_at bX10_isLetter_0 4 rfl
theorem dX10_isLetter_9 : decode cX10_isLetter 9 = .ok (.if_icmp .gt 7, 3) := dk_at bX10_isLetter_0 5 rfl
theorem dX10_isLetter_12 : decode cX10_isLetter 12 = .ok (.iconst 1, 1) := dk_at bX10_isLetter_0 6 rfl
theorem dX10_isLetter_13 : decode cX10_isLetter 13 = .ok (.goto 4, 3) := dk_at bX10_isLetter_0 7 rfl
theorem dX10_isLetter_16 : decode cX10_isLetter 16 = .ok (.iconst 0, 1) := dk_at bX10_isLetter_0 8 rfl
theorem dX10_isLetter_17 : decode cX10_isLetter 17 = .ok (.ireturn, 1) := dk_at bX10_isLetter_0 9 rfl
theorem bX10_isDigit_0 : dk cX10_isDigit [(0, .iload_n 0, 1), (1, .bipush 48, 2), (3, .if_icmp .lt 13, 3), (6, .iload_n 0, 1), (7, .bipush 57, 2), (9, .if_icmp .gt 7, 3), (12, .iconst 1, 1), (13, .goto 4, 3), (16, .iconst 0, 1), (17, .ireturn, 1)] = true := by decide +kernel
theorem dX10_isDigit_0 : decode cX10_isDigit 0 = .ok (.iload_n 0, 1) := dk_at bX10_isDigit_0 0 rfl
theorem dX10_isDigit_1 : decode cX10_isDigit 1 = .ok (.bipush 48, 2) := dk_at bX10_isDigit_0 1 rfl
theorem dX10_isDigit_3 : decode cX10_isDigit 3 = .ok (.if_icmp .lt 13, 3) := dk_at bX10_isDigit_0 2 rfl
theorem dX10_isDigit_6 : decode cX10_isDigit 6 = .ok (.iload_n 0, 1) := dk_at bX10_isDigit_0 3 rfl
theorem dX10_isDigit_7 : decode cX10_isDigit 7 = .ok (.bipush 57, 2) := dk_at bX10_isDigit_0 4 rfl
theorem dX10_isDigit_9 : decode cX10_isDigit 9 = .ok (.if_icmp .gt 7, 3) := dk_at bX10_isDigit_0 5 rfl
theorem dX10_isDigit_12 : decode cX10_isDigit 12 = .ok (.iconst 1, 1) := dk_at bX10_isDigit_0 6 rfl
theorem dX10_isDigit_13 : decode cX10_isDigit 13 = .ok (.goto 4, 3) := dk_at bX10_isDigit_0 7 rfl
theorem dX10_isDigit_16 : decode cX10_isDigit 16 = .ok (.iconst 0, 1) := dk_at bX10_isDigit_0 8 rfl
theorem dX10_isDigit_17 : decode cX10_isDigit 17 = .ok (.ireturn, 1) := dk_at bX10_isDigit_0 9 rfl
set_option maxRecDepth 20000 in
theorem ggX11_init_X9_init : GoodIn wsX11_init wsX9_init := goodIn_r _ [38, 39, 2, 3, 40, 41, 42, 159, 160] rfl (by decide +kernel)
set_option maxRecDepth 20000 in
theorem gX11_init_X9_init_n9 : GoodIn wsX11_init (wsX9_init) := ggX11_init_X9_init
set_option maxRecDepth 20000 in
theorem ggX11_init_X6_init : GoodIn wsX11_init wsX6_init := goodIn_r _ [45, 46, 2, 3, 47, 48, 49, 50, 51, 52, 53, 54, 55, 56, 57, 58, 59, 60, 61, 170, 171, 172, 208, 209, 210, 211, 212] rfl (by decide +kernel)
set_option maxRecDepth 20000 in
theorem gX11_init_X6_init : GoodIn wsX11_init (wsX6_init) := ggX11_init_X6_init
set_option maxRecDepth 20000 in
theorem ggX11_init_X8_init : GoodIn wsX11_init wsX8_init := goodIn_r _ [63, 64, 2, 3, 40, 65, 66, 173, 174] rfl (by decide +kernel)
set_option maxRecDepth 20000 in
theorem gX11_init_X8_init_n27 : GoodIn wsX11_init (wsX8_init) := ggX11_init_X8_init
set_option maxRecDepth 20000 in
theorem ggX11_init_X0_init : GoodIn wsX11_init wsX0_init := goodIn_r _ [68, 69, 2, 3, 40, 70, 71, 72, 73, 29, 30, 74, 75, 33, 34, 76, 77, 78, 79, 80, 81, 82, 83, 84, 85, 86, 87, 88, 89, 90, 91, 92, 93, 94, 95, 96, 97, 98, 99, 100, 101, 102, 103, 104, 105, 106, 107, 108, 109, 110, 111, 112, 113, 114, 115, 116, 175, 176, 177, 178, 179, 180, 198, 199, 200, 201, 202, 203, 204, 205, 206, 207, 213, 214, 215, 216, 217, 218, 219, 220, 221, 222, 223, 224, 225, 226, 227, 228] rfl (by decide +kernel)
set_option maxRecDepth 20000 in
theorem gX11_init_X0_init_n38 : GoodIn wsX11_init (wsX0_init) := ggX11_init_X0_init
set_option maxRecDepth 20000 in
theorem ggX11_init_X2_init : GoodIn wsX11_init wsX2_init := goodIn_r _ [119, 120, 2, 3, 40, 121, 122, 123, 124, 125, 126, 127, 128, 129, 130, 131, 132, 133, 181, 182, 183, 184, 185, 186, 187, 188, 189] rfl (by decide +kernel)
set_option maxRecDepth 20000 in
theorem gX11_init_X2_init : GoodIn wsX11_init (wsX2_init) := ggX11_init_X2_init
set_option maxRecDepth 20000 in
theorem ggX11_init_X5_init : GoodIn wsX11_init wsX5_init := goodIn_r _ [136, 137, 2, 3, 138, 139, 40, 140, 141, 142, 143, 144, 145, 146, 147, 148, 149, 150, 151, 152, 153, 154, 155, 156, 157, 158, 190, 191, 192, 193, 194, 195, 196, 197, 229, 230, 231, 232, 233] rfl (by decide +kernel)
set_option maxRecDepth 20000 in
theorem gX11_init_X5_init : GoodIn wsX11_init (wsX5_init) := ggX11_init_X5_init
set_option maxRecDepth 20000 in
theorem ggX11_init_X7_init : GoodIn wsX11_init wsX7_init := goodIn_r _ [82, 83, 2, 3, 40, 84, 85, 86, 87, 88, 89, 198, 199, 200, 201, 202] rfl (by decide +kernel)
set_option maxRecDepth 20000 in
theorem gX11_init_X7_init_n57 : GoodIn wsX11_init (wsX7_init) := ggX11_init_X7_init
set_option maxRecDepth 20000 in
theorem ggX11_init_X1_init : GoodIn wsX11_init wsX1_init := goodIn_r _ [91, 92, 2, 3, 40, 93, 94, 95, 96, 97, 203, 204, 205, 206, 207] rfl (by decide +kernel)
set_option maxRecDepth 20000 in
theorem gX11_init_X1_init_n64 : GoodIn wsX11_init (wsX1_init) := ggX11_init_X1_init
