theorem bX11_init_0 : dk cX11_init [(0, .aload_n 0, 1), (1, .invokespecial 1, 3), (4, .aload_n 0, 1), (5, .new 7, 3), (8, .dup, 1), (9, .invokespecial 9, 3), (12, .putfield 10, 3), (15, .aload_n 0, 1), (16, .new 16, 3), (19, .dup, 1), (20, .aload_n 0, 1), (21, .getfield 10, 3), (24, .invokespecial 18, 3), (27, .putfield 21, 3), (30, .aload_n 0, 1), (31, .new 25, 3), (34, .dup, 1), (35, .invokespecial 27, 3), (38, .putfield 28, 3), (41, .aload_n 0, 1), (42, .bipush 6, 2), (44, .anewarray 32, 3), (47, .putfield 34, 3), (50, .iconst 0, 1), (51, .istore_n 1, 1), (52, .iload_n 1, 1), (53, .bipush 6, 2), (55, .if_icmp .ge 22, 3), (58, .aload_n 0, 1), (59, .getfield 34, 3), (62, .iload_n 1, 1), (63, .new 32, 3), (66, .dup, 1), (67, .invokespecial 38, 3), (70, .aastore, 1), (71, .iinc 1 1, 3), (74, .goto (-22), 3), (77, .aload_n 0, 1), (78, .new 39, 3), (81, .dup, 1)] = true := by decide +kernel
theorem dX11_init_0 : decode cX11_init 0 = .ok (.aload_n 0, 1) := dk_at bX11_init_0 0 rfl
theorem dX11_init_1 : decode cX11_init 1 = .ok (.invokespecial 1, 3) := dk_at bX11_init_0 1 rfl
theorem dX11_init_4 : decode cX11_init 4 = .ok (.aload_n 0, 1) := dk_at bX11_init_0 2 rfl
theorem dX11_init_5 : decode cX11_init 5 = .ok (.new 7, 3) := dk_at bX11_init_0 3 rfl
theorem dX11_init_8 : decode cX11_init 8 = .ok (.dup, 1) := dk_at bX11_init_0 4 rfl
theorem dX11_init_9 : decode cX11_init 9 = .ok (.invokespecial 9, 3) := dk_at bX11_init_0 5 rfl
theorem dX11_init_12 : decode cX11_init 12 = .ok (.putfield 10, 3) := dk_at bX11_init_0 6 rfl
theorem dX11_init_15 : decode cX11_init 15 = .ok (.aload_n 0, 1) := dk_at bX11_init_0 7 rfl
theorem dX11_init_16 : decode cX11_init 16 = .ok (.new 16, 3) := dk_at bX11_init_0 8 rfl
theorem dX11_init_19 : decode cX11_init 19 = .ok (.dup, 1) := dk_at bX11_init_0 9 rfl
theorem dX11_init_20 : decode cX11_init 20 = .ok (.aload_n 0, 1) := dk_at bX11_init_0 10 rfl
theorem dX11_init_21 : decode cX11_init 21 = .ok (.getfield 10, 3) := dk_at bX11_init_0 11 rfl
theorem dX11_init_24 : decode cX11_init 24 = .ok (.invokespecial 18, 3) := dk_at bX11_init_0 12 rfl
theorem dX11_init_27 : decode cX11_init 27 = .ok (.putfield 21, 3) := dk_at bX11_init_0 13 rfl
theorem dX11_init_30 : decode cX11_init 30 = .ok (.aload_n 0, 1) := dk_at bX11_init_0 14 rfl
theorem dX11_init_31 : decode cX11_init 31 = .ok (.new 25, 3) := dk_at bX11_init_0 15 rfl
theorem dX11_init_34 : decode cX11_init 34 = .ok (.dup, 1) := dk_at bX11_init_0 16 rfl
theorem dX11_init_35 : decode cX11_init 35 = .ok (.invokespecial 27, 3) := dk_at bX11_init_0 17 rfl
theorem dX11_init_38 : decode cX11_init 38 = .ok (.putfield 28, 3) := dk_at bX11_init_0 18 rfl
theorem dX11_init_41 : decode cX11_init 41 = .ok (.aload_n 0, 1) := dk_at bX11_init_0 19 rfl
theorem dX11_init_42 : decode cX11_init 42 = .ok (.bipush 6, 2) := dk_at bX11_init_0 20 rfl
theorem dX11_init_44 : decode cX11_init 44 = .ok (.anewarray 32, 3) := dk_at bX11_init_0 21 rfl
theorem dX11_init_47 : decode cX11_init 47 = .ok (.putfield 34, 3) := dk_at bX11_init_0 22 rfl
theorem dX11_init_50 : decode cX11_init 50 = .ok (.iconst 0, 1) := dk_at bX11_init_0 23 rfl
theorem dX11_init_51 : decode cX11_init 51 = .ok (.istore_n 1, 1) := dk_at bX11_init_0 24 rfl
theorem dX11_init_52 : decode cX11_init 52 = .ok (.iload_n 1, 1) := dk_at bX11_init_0 25 rfl
theorem dX11_init_53 : decode cX11_init 53 = .ok (.bipush 6, 2) := dk_at bX11_init_0 26 rfl
theorem dX11_init_55 : decode cX11_init 55 = .ok (.if_icmp .ge 22, 3) := dk_at bX11_init_0 27 rfl
theorem dX11_init_58 : decode cX11_init 58 = .ok (.aload_n 0, 1) := dk_at bX11_init_0 28 rfl
theorem dX11_init_59 : decode cX11_init 59 = .ok (.getfield 34, 3) := dk_at bX11_init_0 29 rfl
theorem dX11_init_62 : decode cX11_init 62 = .ok (.iload_n 1, 1) := dk_at bX11_init_0 30 rfl
theorem dX11_init_63 : decode cX11_init 63 = .ok (.new 32, 3) := dk_at bX11_init_0 31 rfl
theorem dX11_init_66 : decode cX11_init 66 = .ok (.dup, 1) := dk_at bX11_init_0 32 rfl
theorem dX11_init_67 : decode cX11_init 67 = .ok (.invokespecial 38, 3) := dk_at bX11_init_0 33 rfl
theorem dX11_init_70 : decode cX11_init 70 = .ok (.aastore, 1) := dk_at bX11_init_0 34 rfl
theorem dX11_init_71 : decode cX11_init 71 = .ok (.iinc 1 1, 3) := dk_at bX11_init_0 35 rfl
theorem dX11_init_74 : decode cX11_init 74 = .ok (.goto (-22), 3) := dk_at bX11_init_0 36 rfl
theorem dX11_init_77 : decode cX11_init 77 = .ok (.aload_n 0, 1) := dk_at bX11_init_0 37 rfl
theorem dX11_init_78 : decode cX11_init 78 = .ok (.new 39, 3) := dk_at bX11_init_0 38 rfl
theorem dX11_init_81 : decode cX11_init 81 = .ok (.dup, 1) := dk_at bX11_init_0 39 rfl
theorem bX11_init_82 : dk cX11_init [(82, .invokespecial 41, 3), (85, .putfield 42, 3), (88, .aload_n 0, 1), (89, .new 46, 3), (92, .dup, 1), (93, .aload_n 0, 1), (94, .getfield 42, 3), (97, .invokespecial 48, 3), (100, .putfield 51, 3), (103, .aload_n 0, 1), (104, .new 55, 3), (107, .dup, 1), (108, .invokespecial 57, 3), (111, .putfield 58, 3), (114, .aload_n 0, 1), (115, .new 62, 3), (118, .dup, 1), (119, .invokespecial 64, 3), (122, .putfield 65, 3), (125, .aload_n 0, 1), (126, .iconst 0, 1), (127, .putfield 69, 3), (130, .return_, 1)] = true := by decide +kernel
theorem dX11_init_82 : decode cX11_init 82 = .ok (.invokespecial 41, 3) := dk_at bX11_init_82 0 rfl
theorem dX11_init_85 : decode cX11_init 85 = .ok (.putfield 42, 3) := dk_at bX11_init_82 1 rfl
theorem dX11_init_88 : decode cX11_init 88 = .ok (.aload_n 0, 1) := dk_at bX11_init_82 2 rfl
theorem dX11_init_89 : decode cX11_init 89 = .ok (.new 46, 3) := dk_at bX11_init_82 3 rfl
theorem dX11_init_92 : decode cX11_init 92 = .ok (.dup, 1) := dk_at bX11_init_82 4 rfl
theorem dX11_init_93 : decode cX11_init 93 = .ok (.aload_n 0, 1) := dk_at bX11_init_82 5 rfl
theorem dX11_init_94 : decode cX11_init 94 = .ok (.getfield 42, 3) := dk_at bX11_init_82 6 rfl
theorem dX11_init_97 : decode cX11_init 97 = .ok (.invokespecial 48, 3) := dk_at bX11_init_82 7 rfl
theorem dX11_init_100 : decode cX11_init 100 = .ok (.putfield 51, 3) := dk_at bX11_init_82 8 rfl
theorem dX11_init_103 : decode cX11_init 103 = .ok (.aload_n 0, 1) := dk_at bX11_init_82 9 rfl
theorem dX11_init_104 : decode cX11_init 104 = .ok (.new 55, 3) := dk_at bX11_init_82 10 rfl
theorem dX11_init_107 : decode cX11_init 107 = .ok (.dup, 1) := dk_at bX11_init_82 11 rfl
theorem dX11_init_108 : decode cX11_init 108 = .ok (.invokespecial 57, 3) := dk_at bX11_init_82 12 rfl
theorem dX11_init_111 : decode cX11_init 111 = .ok (.putfield 58, 3) := dk_at bX11_init_82 13 rfl
theorem dX11_init_114 : decode cX11_init 114 = .ok (.aload_n 0, 1) := dk_at bX11_init_82 14 rfl
theorem dX11_init_115 : decode cX11_init 115 = .ok (.new 62, 3) := dk_at bX11_init_82 15 rfl
theorem dX11_init_118 : decode cX11_init 118 = .ok (.dup, 1) := dk_at bX11_init_82 16 rfl
theorem dX11_init_119 : decode cX11_init 119 = .ok (.invokespecial 64, 3) := dk_at bX11_init_82 17 rfl
theorem dX11_init_122 : decode cX11_init 122 = .ok (.putfield 65, 3) := dk_at bX11_init_82 18 rfl
theorem dX11_init_125 : decode cX11_init 125 = .ok (.aload_n 0, 1) := dk_at bX11_init_82 19 rfl
theorem dX11_init_126 : decode cX11_init 126 = .ok (.iconst 0, 1) := dk_at bX11_init_82 20 rfl
theorem dX11_init_127 : decode cX11_init 127 = .ok (.putfield 69, 3) := dk_at bX11_init_82 21 rfl
theorem dX11_init_130 : decode cX11_init 130 = .ok (.return_, 1) := dk_at bX11_init_82 22 rfl
set_option maxRecDepth 20000 in
theorem ggX11_feed_X9_append : GoodIn wsX11_feed wsX9_append := goodIn_r _ [7, 8, 9, 19, 20] rfl (by decide +kernel)
set_option maxRecDepth 20000 in
theorem gX11_feed_X9_append : GoodIn wsX11_feed (wsV RX11 76 RX9 yX9_append wsX9_append) := goodIn_app (goodIn_r _ [3, 4, 5, 6] rfl (by decide +kernel)) ggX11_feed_X9_append
theorem bX11_feed_0 : dk cX11_feed [(0, .aload_n 0, 1), (1, .getfield 10, 3), (4, .getfield 73, 3), (7, .bipush 20, 2), (9, .iadd, 1), (10, .sipush 800, 3), (13, .if_icmp .le 6, 3), (16, .bipush (-3), 2), (18, .ireturn, 1), (19, .aload_n 0, 1), (20, .getfield 10, 3), (23, .iload_n 1, 1), (24, .invokevirtual 76, 3), (27, .aload_n 0, 1), (28, .getfield 10, 3), (31, .iload_n 2, 1), (32, .invokevirtual 76, 3), (35, .aload_n 0, 1), (36, .getfield 10, 3), (39, .iload_n 3, 1), (40, .invokevirtual 76, 3), (43, .aload_n 0, 1), (44, .getfield 10, 3), (47, .iload 4, 2), (49, .invokevirtual 76, 3), (52, .aload_n 0, 1), (53, .getfield 10, 3), (56, .iload 5, 2), (58, .invokevirtual 76, 3), (61, .aload_n 0, 1), (62, .getfield 10, 3), (65, .getfield 73, 3), (68, .ireturn, 1)] = true := by decide +kernel
theorem dX11_feed_0 : decode cX11_feed 0 = .ok (.aload_n 0, 1) := dk_at bX11_feed_0 0 rfl
theorem dX11_feed_1 : decode cX11_feed 1 = .ok (.getfield 10, 3) := dk_at bX11_feed_0 1 rfl
theorem dX11_feed_4 : decode cX11_feed 4 = .ok (.getfield 73, 3) := dk_at bX11_feed_0 2 rfl
theorem dX11_feed_7 : decode cX11_feed 7 = .ok (.bipush 20, 2) := dk_at bX11_feed_0 3 rfl
theorem dX11_feed_9 : decode cX11_feed 9 = .ok (.iadd, 1) := dk_at bX11_feed_0 4 rfl
theorem dX11_feed_10 : decode cX11_feed 10 = .ok (.sipush 800, 3) := dk_at bX11_feed_0 5 rfl
theorem dX11_feed_13 : decode cX11_feed 13 = .ok (.if_icmp .le 6, 3) := dk_at bX11_feed_0 6 rfl
theorem dX11_feed_16 : decode cX11_feed 16 = .ok (.bipush (-3), 2) := dk_at bX11_feed_0 7 rfl
theorem dX11_feed_18 : decode cX11_feed 18 = .ok (.ireturn, 1) := dk_at bX11_feed_0 8 rfl
theorem dX11_feed_19 : decode cX11_feed 19 = .ok (.aload_n 0, 1) := dk_at bX11_feed_0 9 rfl
theorem dX11_feed_20 : decode cX11_feed 20 = .ok (.getfield 10, 3) := dk_at bX11_feed_0 10 rfl
theorem dX11_feed_23 : decode cX11_feed 23 = .ok (.iload_n 1, 1) := dk_at bX11_feed_0 11 rfl
theorem dX11_feed_24 : decode cX11_feed 24 = .ok (.invokevirtual 76, 3) := dk_at bX11_feed_0 12 rfl
theorem dX11_feed_27 : decode cX11_feed 27 = .ok (.aload_n 0, 1) := dk_at bX11_feed_0 13 rfl
theorem dX11_feed_28 : decode cX11_feed 28 = .ok (.getfield 10, 3) := dk_at bX11_feed_0 14 rfl
theorem dX11_feed_31 : decode cX11_feed 31 = .ok (.iload_n 2, 1) := dk_at bX11_feed_0 15 rfl
theorem dX11_feed_32 : decode cX11_feed 32 = .ok (.invokevirtual 76, 3) := dk_at bX11_feed_0 16 rfl
theorem dX11_feed_35 : decode cX11_feed 35 = .ok (.aload_n 0, 1) := dk_at bX11_feed_0 17 rfl
theorem dX11_feed_36 : decode cX11_feed 36 = .ok (.getfield 10, 3) := dk_at bX11_feed_0 18 rfl
theorem dX11_feed_39 : decode cX11_feed 39 = .ok (.iload_n 3, 1) := dk_at bX11_feed_0 19 rfl
theorem dX11_feed_40 : decode cX11_feed 40 = .ok (.invokevirtual 76, 3) := dk_at bX11_feed_0 20 rfl
theorem dX11_feed_43 : decode cX11_feed 43 = .ok (.aload_n 0, 1) := dk_at bX11_feed_0 21 rfl
theorem dX11_feed_44 : decode cX11_feed 44 = .ok (.getfield 10, 3) := dk_at bX11_feed_0 22 rfl
theorem dX11_feed_47 : decode cX11_feed 47 = .ok (.iload 4, 2) := dk_at bX11_feed_0 23 rfl
theorem dX11_feed_49 : decode cX11_feed 49 = .ok (.invokevirtual 76, 3) := dk_at bX11_feed_0 24 rfl
theorem dX11_feed_52 : decode cX11_feed 52 = .ok (.aload_n 0, 1) := dk_at bX11_feed_0 25 rfl
theorem dX11_feed_53 : decode cX11_feed 53 = .ok (.getfield 10, 3) := dk_at bX11_feed_0 26 rfl
theorem dX11_feed_56 : decode cX11_feed 56 = .ok (.iload 5, 2) := dk_at bX11_feed_0 27 rfl
theorem dX11_feed_58 : decode cX11_feed 58 = .ok (.invokevirtual 76, 3) := dk_at bX11_feed_0 28 rfl
theorem dX11_feed_61 : decode cX11_feed 61 = .ok (.aload_n 0, 1) := dk_at bX11_feed_0 29 rfl
theorem dX11_feed_62 : decode cX11_feed 62 = .ok (.getfield 10, 3) := dk_at bX11_feed_0 30 rfl
theorem dX11_feed_65 : decode cX11_feed 65 = .ok (.getfield 73, 3) := dk_at bX11_feed_0 31 rfl
theorem dX11_feed_68 : decode cX11_feed 68 = .ok (.ireturn, 1) := dk_at bX11_feed_0 32 rfl
set_option maxRecDepth 20000 in
theorem ggX11_end_X11_within : GoodIn wsX11_end wsX11_within := goodIn_r _ [6] rfl (by decide +kernel)
set_option maxRecDepth 20000 in
theorem gX11_end_X11_within : GoodIn wsX11_end (va_wsS RX11 80 yX11_within wsX11_within) := goodIn_app (goodIn_r _ [3, 4, 5] rfl (by decide +kernel)) ggX11_end_X11_within
theorem bX11_end_0 : dk cX11_end [(0, .iload_n 1, 1), (1, .iconst 0, 1), (2, .aload_n 0, 1), (3, .getfield 10, 3), (6, .getfield 73, 3), (9, .invokestatic 80, 3), (12, .ifCond .ne 5, 3), (15, .iconst (-1), 1), (16, .ireturn, 1), (17, .aload_n 0, 1), (18, .getfield 10, 3), (21, .iload_n 1, 1), (22, .putfield 73, 3), (25, .iload_n 1, 1), (26, .ireturn, 1)] = true := by decide +kernel
theorem dX11_end_0 : decode cX11_end 0 = .ok (.iload_n 1, 1) := dk_at bX11_end_0 0 rfl
theorem dX11_end_1 : decode cX11_end 1 = .ok (.iconst 0, 1) := dk_at bX11_end_0 1 rfl
theorem dX11_end_2 : decode cX11_end 2 = .ok (.aload_n 0, 1) := dk_at bX11_end_0 2 rfl
theorem dX11_end_3 : decode cX11_end 3 = .ok (.getfield 10, 3) := dk_at bX11_end_0 3 rfl
theorem dX11_end_6 : decode cX11_end 6 = .ok (.getfield 73, 3) := dk_at bX11_end_0 4 rfl
theorem dX11_end_9 : decode cX11_end 9 = .ok (.invokestatic 80, 3) := dk_at bX11_end_0 5 rfl
theorem dX11_end_12 : decode cX11_end 12 = .ok (.ifCond .ne 5, 3) := dk_at bX11_end_0 6 rfl
theorem dX11_end_15 : decode cX11_end 15 = .ok (.iconst (-1), 1) := dk_at bX11_end_0 7 rfl
theorem dX11_end_16 : decode cX11_end 16 = .ok (.ireturn, 1) := dk_at bX11_end_0 8 rfl
theorem dX11_end_17 : decode cX11_end 17 = .ok (.aload_n 0, 1) := dk_at bX11_end_0 9 rfl
theorem dX11_end_18 : decode cX11_end 18 = .ok (.getfield 10, 3) := dk_at bX11_end_0 10 rfl
theorem dX11_end_21 : decode cX11_end 21 = .ok (.iload_n 1, 1) := dk_at bX11_end_0 11 rfl
theorem dX11_end_22 : decode cX11_end 22 = .ok (.putfield 73, 3) := dk_at bX11_end_0 12 rfl
theorem dX11_end_25 : decode cX11_end 25 = .ok (.iload_n 1, 1) := dk_at bX11_end_0 13 rfl
theorem dX11_end_26 : decode cX11_end 26 = .ok (.ireturn, 1) := dk_at bX11_end_0 14 rfl
set_option maxRecDepth 20000 in
theorem ggX11_wind_X11_below : GoodIn wsX11_wind wsX11_below := goodIn_r _ [6] rfl (by decide +kernel)
set_option maxRecDepth 20000 in
theorem gX11_wind_X11_below : GoodIn wsX11_wind (va_wsS RX11 84 yX11_below wsX11_below) := goodIn_app (goodIn_r _ [3, 4, 5] rfl (by decide +kernel)) ggX11_wind_X11_below
set_option maxRecDepth 20000 in
theorem ggX11_wind_X11_within : GoodIn wsX11_wind wsX11_within := goodIn_r _ [9] rfl (by decide +kernel)
set_option maxRecDepth 20000 in
theorem gX11_wind_X11_within : GoodIn wsX11_wind (va_wsS RX11 80 yX11_within wsX11_within) := goodIn_app (goodIn_r _ [7, 8, 5] rfl (by decide +kernel)) ggX11_wind_X11_within
theorem bX11_wind_0 : dk cX11_wind [(0, .iload_n 1, 1), (1, .bipush 24, 2), (3, .invokestatic 84, 3), (6, .ifCond .eq 32, 3), (9, .iload_n 2, 1), (10, .bipush 12, 2), (12, .invokestatic 84, 3), (15, .ifCond .eq 23, 3), (18, .iload_n 3, 1), (19, .bipush 8, 2), (21, .invokestatic 84, 3), (24, .ifCond .eq 14, 3), (27, .iload 4, 2), (29, .iconst 0, 1), (30, .bipush 9, 2), (32, .invokestatic 80, 3), (35, .ifCond .ne 6, 3), (38, .bipush (-2), 2), (40, .ireturn, 1), (41, .iload_n 1, 1), (42, .bipush 12, 2), (44, .imul, 1), (45, .iload_n 2, 1), (46, .iadd, 1), (47, .istore 5, 2), (49, .aload_n 0, 1), (50, .getfield 28, 3), (53, .getfield 88, 3), (56, .iload 5, 2), (58, .iaload, 1), (59, .istore 6, 2), (61, .aload_n 0, 1), (62, .getfield 28, 3), (65, .getfield 88, 3), (68, .iload 5, 2), (70, .bipush 10, 2), (72, .iload_n 3, 1), (73, .imul, 1), (74, .iload 4, 2), (76, .iadd, 1)] = true := by decide +kernel
theorem dX11_wind_0 : decode cX11_wind 0 = .ok (.iload_n 1, 1) := dk_at bX11_wind_0 0 rfl
theorem dX11_wind_1 : decode cX11_wind 1 = .ok (.bipush 24, 2) := dk_at bX11_wind_0 1 rfl
theorem dX11_wind_3 : decode cX11_wind 3 = .ok (.invokestatic 84, 3) := dk_at bX11_wind_0 2 rfl
theorem dX11_wind_6 : decode cX11_wind 6 = .ok (.ifCond .eq 32, 3) := dk_at bX11_wind_0 3 rfl
theorem dX11_wind_9 : decode cX11_wind 9 = .ok (.iload_n 2, 1) := dk_at bX11_wind_0 4 rfl
theorem dX11_wind_10 : decode cX11_wind 10 = .ok (.bipush 12, 2) := dk_at bX11_wind_0 5 rfl
theorem dX11_wind_12 : decode cX11_wind 12 = .ok (.invokestatic 84, 3) := dk_at bX11_wind_0 6 rfl
theorem dX11_wind_15 : decode cX11_wind 15 = .ok (.ifCond .eq 23, 3) := dk_at bX11_wind_0 7 rfl
theorem dX11_wind_18 : decode cX11_wind 18 = .ok (.iload_n 3, 1) := dk_at bX11_wind_0 8 rfl
theorem dX11_wind_19 : decode cX11_wind 19 = .ok (.bipush 8, 2) := dk_at bX11_wind_0 9 rfl
theorem dX11_wind_21 : decode cX11_wind 21 = .ok (.invokestatic 84, 3) := dk_at bX11_wind_0 10 rfl
theorem dX11_wind_24 : decode cX11_wind 24 = .ok (.ifCond .eq 14, 3) := dk_at bX11_wind_0 11 rfl
theorem dX11_wind_27 : decode cX11_wind 27 = .ok (.iload 4, 2) := dk_at bX11_wind_0 12 rfl
theorem dX11_wind_29 : decode cX11_wind 29 = .ok (.iconst 0, 1) := dk_at bX11_wind_0 13 rfl
theorem dX11_wind_30 : decode cX11_wind 30 = .ok (.bipush 9, 2) := dk_at bX11_wind_0 14 rfl
theorem dX11_wind_32 : decode cX11_wind 32 = .ok (.invokestatic 80, 3) := dk_at bX11_wind_0 15 rfl
theorem dX11_wind_35 : decode cX11_wind 35 = .ok (.ifCond .ne 6, 3) := dk_at bX11_wind_0 16 rfl
theorem dX11_wind_38 : decode cX11_wind 38 = .ok (.bipush (-2), 2) := dk_at bX11_wind_0 17 rfl
theorem dX11_wind_40 : decode cX11_wind 40 = .ok (.ireturn, 1) := dk_at bX11_wind_0 18 rfl
theorem dX11_wind_41 : decode cX11_wind 41 = .ok (.iload_n 1, 1) := dk_at bX11_wind_0 19 rfl
theorem dX11_wind_42 : decode cX11_wind 42 = .ok (.bipush 12, 2) := dk_at bX11_wind_0 20 rfl
theorem dX11_wind_44 : decode cX11_wind 44 = .ok (.imul, 1) := dk_at bX11_wind_0 21 rfl
theorem dX11_wind_45 : decode cX11_wind 45 = .ok (.iload_n 2, 1) := dk_at bX11_wind_0 22 rfl
theorem dX11_wind_46 : decode cX11_wind 46 = .ok (.iadd, 1) := dk_at bX11_wind_0 23 rfl
theorem dX11_wind_47 : decode cX11_wind 47 = .ok (.istore 5, 2) := dk_at bX11_wind_0 24 rfl
theorem dX11_wind_49 : decode cX11_wind 49 = .ok (.aload_n 0, 1) := dk_at bX11_wind_0 25 rfl
theorem dX11_wind_50 : decode cX11_wind 50 = .ok (.getfield 28, 3) := dk_at bX11_wind_0 26 rfl
theorem dX11_wind_53 : decode cX11_wind 53 = .ok (.getfield 88, 3) := dk_at bX11_wind_0 27 rfl
theorem dX11_wind_56 : decode cX11_wind 56 = .ok (.iload 5, 2) := dk_at bX11_wind_0 28 rfl
theorem dX11_wind_58 : decode cX11_wind 58 = .ok (.iaload, 1) := dk_at bX11_wind_0 29 rfl
theorem dX11_wind_59 : decode cX11_wind 59 = .ok (.istore 6, 2) := dk_at bX11_wind_0 30 rfl
theorem dX11_wind_61 : decode cX11_wind 61 = .ok (.aload_n 0, 1) := dk_at bX11_wind_0 31 rfl
theorem dX11_wind_62 : decode cX11_wind 62 = .ok (.getfield 28, 3) := dk_at bX11_wind_0 32 rfl
theorem dX11_wind_65 : decode cX11_wind 65 = .ok (.getfield 88, 3) := dk_at bX11_wind_0 33 rfl
theorem dX11_wind_68 : decode cX11_wind 68 = .ok (.iload 5, 2) := dk_at bX11_wind_0 34 rfl
theorem dX11_wind_70 : decode cX11_wind 70 = .ok (.bipush 10, 2) := dk_at bX11_wind_0 35 rfl
theorem dX11_wind_72 : decode cX11_wind 72 = .ok (.iload_n 3, 1) := dk_at bX11_wind_0 36 rfl
theorem dX11_wind_73 : decode cX11_wind 73 = .ok (.imul, 1) := dk_at bX11_wind_0 37 rfl
theorem dX11_wind_74 : decode cX11_wind 74 = .ok (.iload 4, 2) := dk_at bX11_wind_0 38 rfl
theorem dX11_wind_76 : decode cX11_wind 76 = .ok (.iadd, 1) := dk_at bX11_wind_0 39 rfl
theorem bX11_wind_77 : dk cX11_wind [(77, .iastore, 1), (78, .iload 6, 2), (80, .ireturn, 1)] = true := by decide +kernel
theorem dX11_wind_77 : decode cX11_wind 77 = .ok (.iastore, 1) := dk_at bX11_wind_77 0 rfl
theorem dX11_wind_78 : decode cX11_wind 78 = .ok (.iload 6, 2) := dk_at bX11_wind_77 1 rfl
theorem dX11_wind_80 : decode cX11_wind 80 = .ok (.ireturn, 1) := dk_at bX11_wind_77 2 rfl
set_option maxRecDepth 20000 in
theorem ggX11_port_X11_below : GoodIn wsX11_port wsX11_below := goodIn_r _ [6] rfl (by decide +kernel)
set_option maxRecDepth 20000 in
theorem gX11_port_X11_below : GoodIn wsX11_port (va_wsS RX11 84 yX11_below wsX11_below) := goodIn_app (goodIn_r _ [3, 4, 5] rfl (by decide +kernel)) ggX11_port_X11_below
set_option maxRecDepth 20000 in
theorem ggX11_port_X11_isPlace : GoodIn wsX11_port wsX11_isPlace := goodIn_r _ [9, 10, 11, 5, 12, 13, 14, 15] rfl (by decide +kernel)
set_option maxRecDepth 20000 in
theorem gX11_port_X11_isPlace : GoodIn wsX11_port (va_wsS RX11 92 yX11_isPlace wsX11_isPlace) := goodIn_app (goodIn_r _ [7, 8, 5] rfl (by decide +kernel)) ggX11_port_X11_isPlace
theorem bX11_port_0 : dk cX11_port [(0, .iload_n 1, 1), (1, .bipush 10, 2), (3, .invokestatic 84, 3), (6, .ifCond .eq 10, 3), (9, .iload_n 2, 1), (10, .invokestatic 92, 3), (13, .ifCond .ne 6, 3), (16, .bipush (-2), 2), (18, .ireturn, 1), (19, .aload_n 0, 1), (20, .getfield 28, 3), (23, .getfield 96, 3), (26, .iload_n 1, 1), (27, .iaload, 1), (28, .istore_n 3, 1), (29, .aload_n 0, 1), (30, .getfield 28, 3), (33, .getfield 96, 3), (36, .iload_n 1, 1), (37, .iload_n 2, 1), (38, .iastore, 1), (39, .iload_n 3, 1), (40, .ireturn, 1)] = true := by decide +kernel
theorem dX11_port_0 : decode cX11_port 0 = .ok (.iload_n 1, 1) := dk_at bX11_port_0 0 rfl
theorem dX11_port_1 : decode cX11_port 1 = .ok (.bipush 10, 2) := dk_at bX11_port_0 1 rfl
theorem dX11_port_3 : decode cX11_port 3 = .ok (.invokestatic 84, 3) := dk_at bX11_port_0 2 rfl
theorem dX11_port_6 : decode cX11_port 6 = .ok (.ifCond .eq 10, 3) := dk_at bX11_port_0 3 rfl
theorem dX11_port_9 : decode cX11_port 9 = .ok (.iload_n 2, 1) := dk_at bX11_port_0 4 rfl
theorem dX11_port_10 : decode cX11_port 10 = .ok (.invokestatic 92, 3) := dk_at bX11_port_0 5 rfl
theorem dX11_port_13 : decode cX11_port 13 = .ok (.ifCond .ne 6, 3) := dk_at bX11_port_0 6 rfl
theorem dX11_port_16 : decode cX11_port 16 = .ok (.bipush (-2), 2) := dk_at bX11_port_0 7 rfl
theorem dX11_port_18 : decode cX11_port 18 = .ok (.ireturn, 1) := dk_at bX11_port_0 8 rfl
theorem dX11_port_19 : decode cX11_port 19 = .ok (.aload_n 0, 1) := dk_at bX11_port_0 9 rfl
theorem dX11_port_20 : decode cX11_port 20 = .ok (.getfield 28, 3) := dk_at bX11_port_0 10 rfl
theorem dX11_port_23 : decode cX11_port 23 = .ok (.getfield 96, 3) := dk_at bX11_port_0 11 rfl
theorem dX11_port_26 : decode cX11_port 26 = .ok (.iload_n 1, 1) := dk_at bX11_port_0 12 rfl
theorem dX11_port_27 : decode cX11_port 27 = .ok (.iaload, 1) := dk_at bX11_port_0 13 rfl
theorem dX11_port_28 : decode cX11_port 28 = .ok (.istore_n 3, 1) := dk_at bX11_port_0 14 rfl
theorem dX11_port_29 : decode cX11_port 29 = .ok (.aload_n 0, 1) := dk_at bX11_port_0 15 rfl
theorem dX11_port_30 : decode cX11_port 30 = .ok (.getfield 28, 3) := dk_at bX11_port_0 16 rfl
theorem dX11_port_33 : decode cX11_port 33 = .ok (.getfield 96, 3) := dk_at bX11_port_0 17 rfl
theorem dX11_port_36 : decode cX11_port 36 = .ok (.iload_n 1, 1) := dk_at bX11_port_0 18 rfl
theorem dX11_port_37 : decode cX11_port 37 = .ok (.iload_n 2, 1) := dk_at bX11_port_0 19 rfl
theorem dX11_port_38 : decode cX11_port 38 = .ok (.iastore, 1) := dk_at bX11_port_0 20 rfl
theorem dX11_port_39 : decode cX11_port 39 = .ok (.iload_n 3, 1) := dk_at bX11_port_0 21 rfl
theorem dX11_port_40 : decode cX11_port 40 = .ok (.ireturn, 1) := dk_at bX11_port_0 22 rfl
set_option maxRecDepth 20000 in
theorem ggX11_speed_X11_below : GoodIn wsX11_speed wsX11_below := goodIn_r _ [6] rfl (by decide +kernel)
set_option maxRecDepth 20000 in
theorem gX11_speed_X11_below : GoodIn wsX11_speed (va_wsS RX11 84 yX11_below wsX11_below) := goodIn_app (goodIn_r _ [3, 4, 5] rfl (by decide +kernel)) ggX11_speed_X11_below
set_option maxRecDepth 20000 in
theorem ggX11_speed_X11_within : GoodIn wsX11_speed wsX11_within := goodIn_r _ [9] rfl (by decide +kernel)
set_option maxRecDepth 20000 in
theorem gX11_speed_X11_within : GoodIn wsX11_speed (va_wsS RX11 80 yX11_within wsX11_within) := goodIn_app (goodIn_r _ [7, 8, 5] rfl (by decide +kernel)) ggX11_speed_X11_within
theorem bX11_speed_0 : dk cX11_speed [(0, .iload_n 1, 1), (1, .bipush 6, 2), (3, .invokestatic 84, 3), (6, .ifCond .eq 30, 3), (9, .iload_n 2, 1), (10, .iconst 5, 1), (11, .invokestatic 84, 3), (14, .ifCond .eq 22, 3), (17, .iload_n 3, 1), (18, .iconst 5, 1), (19, .invokestatic 84, 3), (22, .ifCond .eq 14, 3), (25, .iload 4, 2), (27, .iconst 0, 1), (28, .bipush 40, 2), (30, .invokestatic 80, 3), (33, .ifCond .ne 6, 3), (36, .bipush (-2), 2), (38, .ireturn, 1), (39, .iload_n 2, 1), (40, .iconst 5, 1), (41, .imul, 1), (42, .iload_n 3, 1), (43, .iadd, 1), (44, .istore 5, 2), (46, .aload_n 0, 1), (47, .getfield 34, 3), (50, .iload_n 1, 1), (51, .aaload, 1), (52, .getfield 99, 3), (55, .iload 5, 2), (57, .iaload, 1), (58, .istore 6, 2), (60, .aload_n 0, 1), (61, .getfield 34, 3), (64, .iload_n 1, 1), (65, .aaload, 1), (66, .getfield 99, 3), (69, .iload 5, 2), (71, .iload 4, 2)] = true := by decide +kernel
theorem dX11_speed_0 : decode cX11_speed 0 = .ok (.iload_n 1, 1) := dk_at bX11_speed_0 0 rfl
theorem dX11_speed_1 : decode cX11_speed 1 = .ok (.bipush 6, 2) := dk_at bX11_speed_0 1 rfl
theorem dX11_speed_3 : decode cX11_speed 3 = .ok (.invokestatic 84, 3) := dk_at bX11_speed_0 2 rfl
theorem dX11_speed_6 : decode cX11_speed 6 = .ok (.ifCond .eq 30, 3) := dk_at bX11_speed_0 3 rfl
theorem dX11_speed_9 : decode cX11_speed 9 = .ok (.iload_n 2, 1) := dk_at bX11_speed_0 4 rfl
theorem dX11_speed_10 : decode cX11_speed 10 = .ok (.iconst 5, 1) := dk_at bX11_speed_0 5 rfl
theorem dX11_speed_11 : decode cX11_speed 11 = .ok (.invokestatic 84, 3) := dk_at bX11_speed_0 6 rfl
theorem dX11_speed_14 : decode cX11_speed 14 = .ok (.ifCond .eq 22, 3) := dk_at bX11_speed_0 7 rfl
theorem dX11_speed_17 : decode cX11_speed 17 = .ok (.iload_n 3, 1) := dk_at bX11_speed_0 8 rfl
theorem dX11_speed_18 : decode cX11_speed 18 = .ok (.iconst 5, 1) := dk_at bX11_speed_0 9 rfl
theorem dX11_speed_19 : decode cX11_speed 19 = .ok (.invokestatic 84, 3) := dk_at bX11_speed_0 10 rfl
theorem dX11_speed_22 : decode cX11_speed 22 = .ok (.ifCond .eq 14, 3) := dk_at bX11_speed_0 11 rfl
theorem dX11_speed_25 : decode cX11_speed 25 = .ok (.iload 4, 2) := dk_at bX11_speed_0 12 rfl
theorem dX11_speed_27 : decode cX11_speed 27 = .ok (.iconst 0, 1) := dk_at bX11_speed_0 13 rfl
theorem dX11_speed_28 : decode cX11_speed 28 = .ok (.bipush 40, 2) := dk_at bX11_speed_0 14 rfl
theorem dX11_speed_30 : decode cX11_speed 30 = .ok (.invokestatic 80, 3) := dk_at bX11_speed_0 15 rfl
theorem dX11_speed_33 : decode cX11_speed 33 = .ok (.ifCond .ne 6, 3) := dk_at bX11_speed_0 16 rfl
theorem dX11_speed_36 : decode cX11_speed 36 = .ok (.bipush (-2), 2) := dk_at bX11_speed_0 17 rfl
theorem dX11_speed_38 : decode cX11_speed 38 = .ok (.ireturn, 1) := dk_at bX11_speed_0 18 rfl
theorem dX11_speed_39 : decode cX11_speed 39 = .ok (.iload_n 2, 1) := dk_at bX11_speed_0 19 rfl
theorem dX11_speed_40 : decode cX11_speed 40 = .ok (.iconst 5, 1) := dk_at bX11_speed_0 20 rfl
theorem dX11_speed_41 : decode cX11_speed 41 = .ok (.imul, 1) := dk_at bX11_speed_0 21 rfl
theorem dX11_speed_42 : decode cX11_speed 42 = .ok (.iload_n 3, 1) := dk_at bX11_speed_0 22 rfl
theorem dX11_speed_43 : decode cX11_speed 43 = .ok (.iadd, 1) := dk_at bX11_speed_0 23 rfl
theorem dX11_speed_44 : decode cX11_speed 44 = .ok (.istore 5, 2) := dk_at bX11_speed_0 24 rfl
theorem dX11_speed_46 : decode cX11_speed 46 = .ok (.aload_n 0, 1) := dk_at bX11_speed_0 25 rfl
theorem dX11_speed_47 : decode cX11_speed 47 = .ok (.getfield 34, 3) := dk_at bX11_speed_0 26 rfl
theorem dX11_speed_50 : decode cX11_speed 50 = .ok (.iload_n 1, 1) := dk_at bX11_speed_0 27 rfl
theorem dX11_speed_51 : decode cX11_speed 51 = .ok (.aaload, 1) := dk_at bX11_speed_0 28 rfl
theorem dX11_speed_52 : decode cX11_speed 52 = .ok (.getfield 99, 3) := dk_at bX11_speed_0 29 rfl
theorem dX11_speed_55 : decode cX11_speed 55 = .ok (.iload 5, 2) := dk_at bX11_speed_0 30 rfl
theorem dX11_speed_57 : decode cX11_speed 57 = .ok (.iaload, 1) := dk_at bX11_speed_0 31 rfl
theorem dX11_speed_58 : decode cX11_speed 58 = .ok (.istore 6, 2) := dk_at bX11_speed_0 32 rfl
theorem dX11_speed_60 : decode cX11_speed 60 = .ok (.aload_n 0, 1) := dk_at bX11_speed_0 33 rfl
theorem dX11_speed_61 : decode cX11_speed 61 = .ok (.getfield 34, 3) := dk_at bX11_speed_0 34 rfl
theorem dX11_speed_64 : decode cX11_speed 64 = .ok (.iload_n 1, 1) := dk_at bX11_speed_0 35 rfl
theorem dX11_speed_65 : decode cX11_speed 65 = .ok (.aaload, 1) := dk_at bX11_speed_0 36 rfl
theorem dX11_speed_66 : decode cX11_speed 66 = .ok (.getfield 99, 3) := dk_at bX11_speed_0 37 rfl
theorem dX11_speed_69 : decode cX11_speed 69 = .ok (.iload 5, 2) := dk_at bX11_speed_0 38 rfl
theorem dX11_speed_71 : decode cX11_speed 71 = .ok (.iload 4, 2) := dk_at bX11_speed_0 39 rfl
theorem bX11_speed_73 : dk cX11_speed [(73, .iastore, 1), (74, .iload 6, 2), (76, .ireturn, 1)] = true := by decide +kernel
theorem dX11_speed_73 : decode cX11_speed 73 = .ok (.iastore, 1) := dk_at bX11_speed_73 0 rfl
theorem dX11_speed_74 : decode cX11_speed 74 = .ok (.iload 6, 2) := dk_at bX11_speed_73 1 rfl
theorem dX11_speed_76 : decode cX11_speed 76 = .ok (.ireturn, 1) := dk_at bX11_speed_73 2 rfl
set_option maxRecDepth 20000 in
theorem ggX11_water_X11_below : GoodIn wsX11_water wsX11_below := goodIn_r _ [6] rfl (by decide +kernel)
set_option maxRecDepth 20000 in
theorem gX11_water_X11_below : GoodIn wsX11_water (va_wsS RX11 84 yX11_below wsX11_below) := goodIn_app (goodIn_r _ [3, 4, 5] rfl (by decide +kernel)) ggX11_water_X11_below
set_option maxRecDepth 20000 in
theorem ggX11_water_X11_within : GoodIn wsX11_water wsX11_within := goodIn_r _ [9] rfl (by decide +kernel)
set_option maxRecDepth 20000 in
theorem gX11_water_X11_within : GoodIn wsX11_water (va_wsS RX11 80 yX11_within wsX11_within) := goodIn_app (goodIn_r _ [7, 8, 5] rfl (by decide +kernel)) ggX11_water_X11_within
theorem bX11_water_0 : dk cX11_water [(0, .iload_n 1, 1), (1, .bipush 6, 2), (3, .invokestatic 84, 3), (6, .ifCond .eq 14, 3), (9, .iload_n 2, 1), (10, .iconst 0, 1), (11, .sipush 10000, 3), (14, .invokestatic 80, 3), (17, .ifCond .ne 6, 3), (20, .bipush (-2), 2), (22, .ireturn, 1), (23, .aload_n 0, 1), (24, .getfield 34, 3), (27, .iload_n 1, 1), (28, .aaload, 1), (29, .getfield 102, 3), (32, .istore_n 3, 1), (33, .aload_n 0, 1), (34, .getfield 34, 3), (37, .iload_n 1, 1), (38, .aaload, 1), (39, .iload_n 2, 1), (40, .putfield 102, 3), (43, .iload_n 3, 1), (44, .ireturn, 1)] = true := by decide +kernel
theorem dX11_water_0 : decode cX11_water 0 = .ok (.iload_n 1, 1) := dk_at bX11_water_0 0 rfl
theorem dX11_water_1 : decode cX11_water 1 = .ok (.bipush 6, 2) := dk_at bX11_water_0 1 rfl
theorem dX11_water_3 : decode cX11_water 3 = .ok (.invokestatic 84, 3) := dk_at bX11_water_0 2 rfl
theorem dX11_water_6 : decode cX11_water 6 = .ok (.ifCond .eq 14, 3) := dk_at bX11_water_0 3 rfl
theorem dX11_water_9 : decode cX11_water 9 = .ok (.iload_n 2, 1) := dk_at bX11_water_0 4 rfl
theorem dX11_water_10 : decode cX11_water 10 = .ok (.iconst 0, 1) := dk_at bX11_water_0 5 rfl
theorem dX11_water_11 : decode cX11_water 11 = .ok (.sipush 10000, 3) := dk_at bX11_water_0 6 rfl
theorem dX11_water_14 : decode cX11_water 14 = .ok (.invokestatic 80, 3) := dk_at bX11_water_0 7 rfl
theorem dX11_water_17 : decode cX11_water 17 = .ok (.ifCond .ne 6, 3) := dk_at bX11_water_0 8 rfl
theorem dX11_water_20 : decode cX11_water 20 = .ok (.bipush (-2), 2) := dk_at bX11_water_0 9 rfl
theorem dX11_water_22 : decode cX11_water 22 = .ok (.ireturn, 1) := dk_at bX11_water_0 10 rfl
theorem dX11_water_23 : decode cX11_water 23 = .ok (.aload_n 0, 1) := dk_at bX11_water_0 11 rfl
theorem dX11_water_24 : decode cX11_water 24 = .ok (.getfield 34, 3) := dk_at bX11_water_0 12 rfl
theorem dX11_water_27 : decode cX11_water 27 = .ok (.iload_n 1, 1) := dk_at bX11_water_0 13 rfl
theorem dX11_water_28 : decode cX11_water 28 = .ok (.aaload, 1) := dk_at bX11_water_0 14 rfl
theorem dX11_water_29 : decode cX11_water 29 = .ok (.getfield 102, 3) := dk_at bX11_water_0 15 rfl
theorem dX11_water_32 : decode cX11_water 32 = .ok (.istore_n 3, 1) := dk_at bX11_water_0 16 rfl
theorem dX11_water_33 : decode cX11_water 33 = .ok (.aload_n 0, 1) := dk_at bX11_water_0 17 rfl
theorem dX11_water_34 : decode cX11_water 34 = .ok (.getfield 34, 3) := dk_at bX11_water_0 18 rfl
theorem dX11_water_37 : decode cX11_water 37 = .ok (.iload_n 1, 1) := dk_at bX11_water_0 19 rfl
theorem dX11_water_38 : decode cX11_water 38 = .ok (.aaload, 1) := dk_at bX11_water_0 20 rfl
theorem dX11_water_39 : decode cX11_water 39 = .ok (.iload_n 2, 1) := dk_at bX11_water_0 21 rfl
theorem dX11_water_40 : decode cX11_water 40 = .ok (.putfield 102, 3) := dk_at bX11_water_0 22 rfl
theorem dX11_water_43 : decode cX11_water 43 = .ok (.iload_n 3, 1) := dk_at bX11_water_0 23 rfl
theorem dX11_water_44 : decode cX11_water 44 = .ok (.ireturn, 1) := dk_at bX11_water_0 24 rfl
set_option maxRecDepth 20000 in
theorem ggX11_lasts_X11_below : GoodIn wsX11_lasts wsX11_below := goodIn_r _ [10] rfl (by decide +kernel)
set_option maxRecDepth 20000 in
theorem gX11_lasts_X11_below : GoodIn wsX11_lasts (va_wsS RX11 84 yX11_below wsX11_below) := goodIn_app (goodIn_r _ [7, 8, 9] rfl (by decide +kernel)) ggX11_lasts_X11_below
set_option maxRecDepth 20000 in
theorem ggX11_lasts_X11_within : GoodIn wsX11_lasts wsX11_within := goodIn_r _ [13] rfl (by decide +kernel)
set_option maxRecDepth 20000 in
theorem gX11_lasts_X11_within : GoodIn wsX11_lasts (va_wsS RX11 80 yX11_within wsX11_within) := goodIn_app (goodIn_r _ [11, 12, 9] rfl (by decide +kernel)) ggX11_lasts_X11_within
theorem bX11_lasts_0 : dk cX11_lasts [(0, .iload_n 1, 1), (1, .bipush 6, 2), (3, .invokestatic 84, 3), (6, .ifCond .eq 22, 3), (9, .iload_n 2, 1), (10, .iconst 4, 1), (11, .invokestatic 84, 3), (14, .ifCond .eq 14, 3), (17, .iload_n 3, 1), (18, .iconst 0, 1), (19, .sipush 10000, 3), (22, .invokestatic 80, 3), (25, .ifCond .ne 6, 3), (28, .bipush (-2), 2), (30, .ireturn, 1), (31, .aload_n 0, 1), (32, .getfield 34, 3), (35, .iload_n 1, 1), (36, .aaload, 1), (37, .getfield 105, 3), (40, .iload_n 2, 1), (41, .iaload, 1), (42, .istore 4, 2), (44, .aload_n 0, 1), (45, .getfield 34, 3), (48, .iload_n 1, 1), (49, .aaload, 1), (50, .getfield 105, 3), (53, .iload_n 2, 1), (54, .iload_n 3, 1), (55, .iastore, 1), (56, .iload 4, 2), (58, .iconst 0, 1), (59, .invokestatic 108, 3), (62, .ireturn, 1)] = true := by decide +kernel
theorem dX11_lasts_0 : decode cX11_lasts 0 = .ok (.iload_n 1, 1) := dk_at bX11_lasts_0 0 rfl
theorem dX11_lasts_1 : decode cX11_lasts 1 = .ok (.bipush 6, 2) := dk_at bX11_lasts_0 1 rfl
theorem dX11_lasts_3 : decode cX11_lasts 3 = .ok (.invokestatic 84, 3) := dk_at bX11_lasts_0 2 rfl
theorem dX11_lasts_6 : decode cX11_lasts 6 = .ok (.ifCond .eq 22, 3) := dk_at bX11_lasts_0 3 rfl
theorem dX11_lasts_9 : decode cX11_lasts 9 = .ok (.iload_n 2, 1) := dk_at bX11_lasts_0 4 rfl
theorem dX11_lasts_10 : decode cX11_lasts 10 = .ok (.iconst 4, 1) := dk_at bX11_lasts_0 5 rfl
theorem dX11_lasts_11 : decode cX11_lasts 11 = .ok (.invokestatic 84, 3) := dk_at bX11_lasts_0 6 rfl
theorem dX11_lasts_14 : decode cX11_lasts 14 = .ok (.ifCond .eq 14, 3) := dk_at bX11_lasts_0 7 rfl
theorem dX11_lasts_17 : decode cX11_lasts 17 = .ok (.iload_n 3, 1) := dk_at bX11_lasts_0 8 rfl
theorem dX11_lasts_18 : decode cX11_lasts 18 = .ok (.iconst 0, 1) := dk_at bX11_lasts_0 9 rfl
theorem dX11_lasts_19 : decode cX11_lasts 19 = .ok (.sipush 10000, 3) := dk_at bX11_lasts_0 10 rfl
theorem dX11_lasts_22 : decode cX11_lasts 22 = .ok (.invokestatic 80, 3) := dk_at bX11_lasts_0 11 rfl
theorem dX11_lasts_25 : decode cX11_lasts 25 = .ok (.ifCond .ne 6, 3) := dk_at bX11_lasts_0 12 rfl
theorem dX11_lasts_28 : decode cX11_lasts 28 = .ok (.bipush (-2), 2) := dk_at bX11_lasts_0 13 rfl
theorem dX11_lasts_30 : decode cX11_lasts 30 = .ok (.ireturn, 1) := dk_at bX11_lasts_0 14 rfl
theorem dX11_lasts_31 : decode cX11_lasts 31 = .ok (.aload_n 0, 1) := dk_at bX11_lasts_0 15 rfl
theorem dX11_lasts_32 : decode cX11_lasts 32 = .ok (.getfield 34, 3) := dk_at bX11_lasts_0 16 rfl
theorem dX11_lasts_35 : decode cX11_lasts 35 = .ok (.iload_n 1, 1) := dk_at bX11_lasts_0 17 rfl
theorem dX11_lasts_36 : decode cX11_lasts 36 = .ok (.aaload, 1) := dk_at bX11_lasts_0 18 rfl
theorem dX11_lasts_37 : decode cX11_lasts 37 = .ok (.getfield 105, 3) := dk_at bX11_lasts_0 19 rfl
theorem dX11_lasts_40 : decode cX11_lasts 40 = .ok (.iload_n 2, 1) := dk_at bX11_lasts_0 20 rfl
theorem dX11_lasts_41 : decode cX11_lasts 41 = .ok (.iaload, 1) := dk_at bX11_lasts_0 21 rfl
theorem dX11_lasts_42 : decode cX11_lasts 42 = .ok (.istore 4, 2) := dk_at bX11_lasts_0 22 rfl
theorem dX11_lasts_44 : decode cX11_lasts 44 = .ok (.aload_n 0, 1) := dk_at bX11_lasts_0 23 rfl
theorem dX11_lasts_45 : decode cX11_lasts 45 = .ok (.getfield 34, 3) := dk_at bX11_lasts_0 24 rfl
theorem dX11_lasts_48 : decode cX11_lasts 48 = .ok (.iload_n 1, 1) := dk_at bX11_lasts_0 25 rfl
theorem dX11_lasts_49 : decode cX11_lasts 49 = .ok (.aaload, 1) := dk_at bX11_lasts_0 26 rfl
theorem dX11_lasts_50 : decode cX11_lasts 50 = .ok (.getfield 105, 3) := dk_at bX11_lasts_0 27 rfl
theorem dX11_lasts_53 : decode cX11_lasts 53 = .ok (.iload_n 2, 1) := dk_at bX11_lasts_0 28 rfl
theorem dX11_lasts_54 : decode cX11_lasts 54 = .ok (.iload_n 3, 1) := dk_at bX11_lasts_0 29 rfl
theorem dX11_lasts_55 : decode cX11_lasts 55 = .ok (.iastore, 1) := dk_at bX11_lasts_0 30 rfl
theorem dX11_lasts_56 : decode cX11_lasts 56 = .ok (.iload 4, 2) := dk_at bX11_lasts_0 31 rfl
theorem dX11_lasts_58 : decode cX11_lasts 58 = .ok (.iconst 0, 1) := dk_at bX11_lasts_0 32 rfl
theorem dX11_lasts_59 : decode cX11_lasts 59 = .ok (.invokestatic 108, 3) := dk_at bX11_lasts_0 33 rfl
theorem dX11_lasts_62 : decode cX11_lasts 62 = .ok (.ireturn, 1) := dk_at bX11_lasts_0 34 rfl
set_option maxRecDepth 20000 in
theorem ggX11_skipper_X11_below : GoodIn wsX11_skipper wsX11_below := goodIn_r _ [11] rfl (by decide +kernel)
set_option maxRecDepth 20000 in
theorem gX11_skipper_X11_below : GoodIn wsX11_skipper (va_wsS RX11 84 yX11_below wsX11_below) := goodIn_app (goodIn_r _ [8, 9, 10] rfl (by decide +kernel)) ggX11_skipper_X11_below
set_option maxRecDepth 20000 in
theorem ggX11_skipper_X6_readRules : GoodIn wsX11_skipper wsX6_readRules := goodIn_r _ [16, 17, 18, 19, 20, 21, 22, 15, 23, 24, 25, 26, 27, 28, 29, 30, 31, 32, 33, 34, 35, 36, 37, 38, 39, 40, 41, 42, 43, 44, 45, 46, 47, 48, 49, 50, 51, 52, 53, 54, 55, 56, 57, 58, 59, 60, 61, 62, 63, 64, 65, 66, 67, 68, 69, 70, 71, 72, 73, 74, 75, 76, 77, 78, 79, 80, 81, 82, 83, 84, 85, 86, 87, 88, 89, 90, 91, 92, 93, 94, 95, 96, 97, 98, 99, 100, 101, 102, 103, 104, 105, 106, 107, 108, 109, 110, 111, 112, 113, 114, 115, 116, 117, 118, 119, 120, 121, 122, 123, 124, 125, 126, 127, 128, 129, 130, 131, 132, 133, 134, 135, 136, 137, 138, 139, 140, 141, 142, 143, 144, 145, 146, 147, 148, 149, 150, 151, 152, 153, 154, 155, 156, 157, 158, 9, 10, 11, 176, 177, 178, 179, 180, 181, 182, 183, 184, 185, 186, 187, 188, 168, 169] rfl (by decide +kernel)
set_option maxRecDepth 20000 in
theorem gX11_skipper_X6_readRules : GoodIn wsX11_skipper (wsV RX11 114 RX6 yX6_readRules wsX6_readRules) := goodIn_app (goodIn_r _ [12, 13, 14, 15] rfl (by decide +kernel)) ggX11_skipper_X6_readRules
theorem bX11_skipper_0 : dk cX11_skipper [(0, .iload_n 1, 1), (1, .bipush 6, 2), (3, .invokestatic 84, 3), (6, .ifCond .ne 6, 3), (9, .bipush (-2), 2), (11, .ireturn, 1), (12, .aload_n 0, 1), (13, .getfield 21, 3), (16, .aload_n 0, 1), (17, .getfield 58, 3), (20, .invokevirtual 114, 3), (23, .istore_n 2, 1), (24, .aload_n 0, 1), (25, .getfield 10, 3), (28, .iconst 0, 1), (29, .putfield 73, 3), (32, .iload_n 2, 1), (33, .ifCond .ne 5, 3), (36, .iconst (-1), 1), (37, .ireturn, 1), (38, .aload_n 0, 1), (39, .getfield 34, 3), (42, .iload_n 1, 1), (43, .aaload, 1), (44, .getfield 118, 3), (47, .astore_n 3, 1), (48, .aload_n 0, 1), (49, .getfield 34, 3), (52, .iload_n 1, 1), (53, .aaload, 1), (54, .aload_n 0, 1), (55, .getfield 58, 3), (58, .putfield 118, 3), (61, .aload_n 0, 1), (62, .aload_n 3, 1), (63, .putfield 58, 3), (66, .aload_n 0, 1), (67, .getfield 34, 3), (70, .iload_n 1, 1), (71, .aaload, 1)] = true := by decide +kernel
theorem dX11_skipper_0 : decode cX11_skipper 0 = .ok (.iload_n 1, 1) := dk_at bX11_skipper_0 0 rfl
theorem dX11_skipper_1 : decode cX11_skipper 1 = .ok (.bipush 6, 2) := dk_at bX11_skipper_0 1 rfl
theorem dX11_skipper_3 : decode cX11_skipper 3 = .ok (.invokestatic 84, 3) := dk_at bX11_skipper_0 2 rfl
theorem dX11_skipper_6 : decode cX11_skipper 6 = .ok (.ifCond .ne 6, 3) := dk_at bX11_skipper_0 3 rfl
theorem dX11_skipper_9 : decode cX11_skipper 9 = .ok (.bipush (-2), 2) := dk_at bX11_skipper_0 4 rfl
theorem dX11_skipper_11 : decode cX11_skipper 11 = .ok (.ireturn, 1) := dk_at bX11_skipper_0 5 rfl
theorem dX11_skipper_12 : decode cX11_skipper 12 = .ok (.aload_n 0, 1) := dk_at bX11_skipper_0 6 rfl
theorem dX11_skipper_13 : decode cX11_skipper 13 = .ok (.getfield 21, 3) := dk_at bX11_skipper_0 7 rfl
theorem dX11_skipper_16 : decode cX11_skipper 16 = .ok (.aload_n 0, 1) := dk_at bX11_skipper_0 8 rfl
theorem dX11_skipper_17 : decode cX11_skipper 17 = .ok (.getfield 58, 3) := dk_at bX11_skipper_0 9 rfl
theorem dX11_skipper_20 : decode cX11_skipper 20 = .ok (.invokevirtual 114, 3) := dk_at bX11_skipper_0 10 rfl
theorem dX11_skipper_23 : decode cX11_skipper 23 = .ok (.istore_n 2, 1) := dk_at bX11_skipper_0 11 rfl
theorem dX11_skipper_24 : decode cX11_skipper 24 = .ok (.aload_n 0, 1) := dk_at bX11_skipper_0 12 rfl
theorem dX11_skipper_25 : decode cX11_skipper 25 = .ok (.getfield 10, 3) := dk_at bX11_skipper_0 13 rfl
theorem dX11_skipper_28 : decode cX11_skipper 28 = .ok (.iconst 0, 1) := dk_at bX11_skipper_0 14 rfl
theorem dX11_skipper_29 : decode cX11_skipper 29 = .ok (.putfield 73, 3) := dk_at bX11_skipper_0 15 rfl
theorem dX11_skipper_32 : decode cX11_skipper 32 = .ok (.iload_n 2, 1) := dk_at bX11_skipper_0 16 rfl
theorem dX11_skipper_33 : decode cX11_skipper 33 = .ok (.ifCond .ne 5, 3) := dk_at bX11_skipper_0 17 rfl
theorem dX11_skipper_36 : decode cX11_skipper 36 = .ok (.iconst (-1), 1) := dk_at bX11_skipper_0 18 rfl
theorem dX11_skipper_37 : decode cX11_skipper 37 = .ok (.ireturn, 1) := dk_at bX11_skipper_0 19 rfl
theorem dX11_skipper_38 : decode cX11_skipper 38 = .ok (.aload_n 0, 1) := dk_at bX11_skipper_0 20 rfl
theorem dX11_skipper_39 : decode cX11_skipper 39 = .ok (.getfield 34, 3) := dk_at bX11_skipper_0 21 rfl
theorem dX11_skipper_42 : decode cX11_skipper 42 = .ok (.iload_n 1, 1) := dk_at bX11_skipper_0 22 rfl
theorem dX11_skipper_43 : decode cX11_skipper 43 = .ok (.aaload, 1) := dk_at bX11_skipper_0 23 rfl
theorem dX11_skipper_44 : decode cX11_skipper 44 = .ok (.getfield 118, 3) := dk_at bX11_skipper_0 24 rfl
theorem dX11_skipper_47 : decode cX11_skipper 47 = .ok (.astore_n 3, 1) := dk_at bX11_skipper_0 25 rfl
theorem dX11_skipper_48 : decode cX11_skipper 48 = .ok (.aload_n 0, 1) := dk_at bX11_skipper_0 26 rfl
theorem dX11_skipper_49 : decode cX11_skipper 49 = .ok (.getfield 34, 3) := dk_at bX11_skipper_0 27 rfl
theorem dX11_skipper_52 : decode cX11_skipper 52 = .ok (.iload_n 1, 1) := dk_at bX11_skipper_0 28 rfl
theorem dX11_skipper_53 : decode cX11_skipper 53 = .ok (.aaload, 1) := dk_at bX11_skipper_0 29 rfl
theorem dX11_skipper_54 : decode cX11_skipper 54 = .ok (.aload_n 0, 1) := dk_at bX11_skipper_0 30 rfl
theorem dX11_skipper_55 : decode cX11_skipper 55 = .ok (.getfield 58, 3) := dk_at bX11_skipper_0 31 rfl
theorem dX11_skipper_58 : decode cX11_skipper 58 = .ok (.putfield 118, 3) := dk_at bX11_skipper_0 32 rfl
theorem dX11_skipper_61 : decode cX11_skipper 61 = .ok (.aload_n 0, 1) := dk_at bX11_skipper_0 33 rfl
theorem dX11_skipper_62 : decode cX11_skipper 62 = .ok (.aload_n 3, 1) := dk_at bX11_skipper_0 34 rfl
theorem dX11_skipper_63 : decode cX11_skipper 63 = .ok (.putfield 58, 3) := dk_at bX11_skipper_0 35 rfl
theorem dX11_skipper_66 : decode cX11_skipper 66 = .ok (.aload_n 0, 1) := dk_at bX11_skipper_0 36 rfl
theorem dX11_skipper_67 : decode cX11_skipper 67 = .ok (.getfield 34, 3) := dk_at bX11_skipper_0 37 rfl
theorem dX11_skipper_70 : decode cX11_skipper 70 = .ok (.iload_n 1, 1) := dk_at bX11_skipper_0 38 rfl
theorem dX11_skipper_71 : decode cX11_skipper 71 = .ok (.aaload, 1) := dk_at bX11_skipper_0 39 rfl
theorem bX11_skipper_72 : dk cX11_skipper [(72, .getfield 118, 3), (75, .getfield 121, 3), (78, .ireturn, 1)] = true := by decide +kernel
theorem dX11_skipper_72 : decode cX11_skipper 72 = .ok (.getfield 118, 3) := dk_at bX11_skipper_72 0 rfl
theorem dX11_skipper_75 : decode cX11_skipper 75 = .ok (.getfield 121, 3) := dk_at bX11_skipper_72 1 rfl
theorem dX11_skipper_78 : decode cX11_skipper 78 = .ok (.ireturn, 1) := dk_at bX11_skipper_72 2 rfl
set_option maxRecDepth 20000 in
theorem ggX11_insurer_X11_below : GoodIn wsX11_insurer wsX11_below := goodIn_r _ [11] rfl (by decide +kernel)
set_option maxRecDepth 20000 in
theorem gX11_insurer_X11_below : GoodIn wsX11_insurer (va_wsS RX11 84 yX11_below wsX11_below) := goodIn_app (goodIn_r _ [8, 9, 10] rfl (by decide +kernel)) ggX11_insurer_X11_below
set_option maxRecDepth 20000 in
theorem ggX11_insurer_X6_readCover : GoodIn wsX11_insurer wsX6_readCover := goodIn_r _ [16, 17, 18, 19, 20, 21, 22, 23, 24, 25, 26, 27, 28, 29, 30, 31, 15, 32, 33, 34, 35, 36, 37, 38, 39, 40, 41, 42, 43, 44, 45, 46, 47, 48, 49, 50, 51, 52, 53, 54, 55, 56, 57, 58, 59, 60, 61, 62, 63, 64, 65, 66, 67, 68, 69, 70, 71, 72, 73, 74, 75, 76, 77, 78, 79, 80, 81, 82, 83, 84, 85, 86, 87, 88, 89, 90, 91, 92, 93, 94, 95, 96, 97, 98, 99, 100, 101, 102, 103, 104, 105, 106, 107, 108, 109, 110, 111, 112, 113, 114, 115, 116, 117, 118, 119, 120, 121, 122, 123, 124, 125, 126, 127, 128, 129, 130, 131, 132, 133, 134, 135, 136, 137, 138, 139, 140, 141, 142, 143, 144, 145, 146, 147, 148, 149, 150, 151, 152, 153, 154, 155, 156, 157, 158, 159, 160, 161, 162, 163, 164, 165, 166, 167, 168, 169, 170, 171, 172, 173, 196, 197, 198, 199, 200, 201, 202, 203, 191, 192, 193, 194, 195, 183, 184] rfl (by decide +kernel)
set_option maxRecDepth 20000 in
theorem gX11_insurer_X6_readCover : GoodIn wsX11_insurer (wsV RX11 124 RX6 yX6_readCover wsX6_readCover) := goodIn_app (goodIn_r _ [12, 13, 14, 15] rfl (by decide +kernel)) ggX11_insurer_X6_readCover
theorem bX11_insurer_0 : dk cX11_insurer [(0, .iload_n 1, 1), (1, .bipush 6, 2), (3, .invokestatic 84, 3), (6, .ifCond .ne 6, 3), (9, .bipush (-2), 2), (11, .ireturn, 1), (12, .aload_n 0, 1), (13, .getfield 21, 3), (16, .aload_n 0, 1), (17, .getfield 65, 3), (20, .invokevirtual 124, 3), (23, .istore_n 2, 1), (24, .aload_n 0, 1), (25, .getfield 10, 3), (28, .iconst 0, 1), (29, .putfield 73, 3), (32, .iload_n 2, 1), (33, .ifCond .ne 5, 3), (36, .iconst (-1), 1), (37, .ireturn, 1), (38, .aload_n 0, 1), (39, .getfield 34, 3), (42, .iload_n 1, 1), (43, .aaload, 1), (44, .getfield 128, 3), (47, .astore_n 3, 1), (48, .aload_n 0, 1), (49, .getfield 34, 3), (52, .iload_n 1, 1), (53, .aaload, 1), (54, .aload_n 0, 1), (55, .getfield 65, 3), (58, .putfield 128, 3), (61, .aload_n 0, 1), (62, .aload_n 3, 1), (63, .putfield 65, 3), (66, .aload_n 0, 1), (67, .getfield 34, 3), (70, .iload_n 1, 1), (71, .aaload, 1)] = true := by decide +kernel
theorem dX11_insurer_0 : decode cX11_insurer 0 = .ok (.iload_n 1, 1) := dk_at bX11_insurer_0 0 rfl
theorem dX11_insurer_1 : decode cX11_insurer 1 = .ok (.bipush 6, 2) := dk_at bX11_insurer_0 1 rfl
theorem dX11_insurer_3 : decode cX11_insurer 3 = .ok (.invokestatic 84, 3) := dk_at bX11_insurer_0 2 rfl
theorem dX11_insurer_6 : decode cX11_insurer 6 = .ok (.ifCond .ne 6, 3) := dk_at bX11_insurer_0 3 rfl
theorem dX11_insurer_9 : decode cX11_insurer 9 = .ok (.bipush (-2), 2) := dk_at bX11_insurer_0 4 rfl
theorem dX11_insurer_11 : decode cX11_insurer 11 = .ok (.ireturn, 1) := dk_at bX11_insurer_0 5 rfl
theorem dX11_insurer_12 : decode cX11_insurer 12 = .ok (.aload_n 0, 1) := dk_at bX11_insurer_0 6 rfl
theorem dX11_insurer_13 : decode cX11_insurer 13 = .ok (.getfield 21, 3) := dk_at bX11_insurer_0 7 rfl
theorem dX11_insurer_16 : decode cX11_insurer 16 = .ok (.aload_n 0, 1) := dk_at bX11_insurer_0 8 rfl
theorem dX11_insurer_17 : decode cX11_insurer 17 = .ok (.getfield 65, 3) := dk_at bX11_insurer_0 9 rfl
theorem dX11_insurer_20 : decode cX11_insurer 20 = .ok (.invokevirtual 124, 3) := dk_at bX11_insurer_0 10 rfl
theorem dX11_insurer_23 : decode cX11_insurer 23 = .ok (.istore_n 2, 1) := dk_at bX11_insurer_0 11 rfl
theorem dX11_insurer_24 : decode cX11_insurer 24 = .ok (.aload_n 0, 1) := dk_at bX11_insurer_0 12 rfl
theorem dX11_insurer_25 : decode cX11_insurer 25 = .ok (.getfield 10, 3) := dk_at bX11_insurer_0 13 rfl
theorem dX11_insurer_28 : decode cX11_insurer 28 = .ok (.iconst 0, 1) := dk_at bX11_insurer_0 14 rfl
theorem dX11_insurer_29 : decode cX11_insurer 29 = .ok (.putfield 73, 3) := dk_at bX11_insurer_0 15 rfl
theorem dX11_insurer_32 : decode cX11_insurer 32 = .ok (.iload_n 2, 1) := dk_at bX11_insurer_0 16 rfl
theorem dX11_insurer_33 : decode cX11_insurer 33 = .ok (.ifCond .ne 5, 3) := dk_at bX11_insurer_0 17 rfl
theorem dX11_insurer_36 : decode cX11_insurer 36 = .ok (.iconst (-1), 1) := dk_at bX11_insurer_0 18 rfl
theorem dX11_insurer_37 : decode cX11_insurer 37 = .ok (.ireturn, 1) := dk_at bX11_insurer_0 19 rfl
theorem dX11_insurer_38 : decode cX11_insurer 38 = .ok (.aload_n 0, 1) := dk_at bX11_insurer_0 20 rfl
theorem dX11_insurer_39 : decode cX11_insurer 39 = .ok (.getfield 34, 3) := dk_at bX11_insurer_0 21 rfl
theorem dX11_insurer_42 : decode cX11_insurer 42 = .ok (.iload_n 1, 1) := dk_at bX11_insurer_0 22 rfl
theorem dX11_insurer_43 : decode cX11_insurer 43 = .ok (.aaload, 1) := dk_at bX11_insurer_0 23 rfl
theorem dX11_insurer_44 : decode cX11_insurer 44 = .ok (.getfield 128, 3) := dk_at bX11_insurer_0 24 rfl
theorem dX11_insurer_47 : decode cX11_insurer 47 = .ok (.astore_n 3, 1) := dk_at bX11_insurer_0 25 rfl
theorem dX11_insurer_48 : decode cX11_insurer 48 = .ok (.aload_n 0, 1) := dk_at bX11_insurer_0 26 rfl
theorem dX11_insurer_49 : decode cX11_insurer 49 = .ok (.getfield 34, 3) := dk_at bX11_insurer_0 27 rfl
theorem dX11_insurer_52 : decode cX11_insurer 52 = .ok (.iload_n 1, 1) := dk_at bX11_insurer_0 28 rfl
theorem dX11_insurer_53 : decode cX11_insurer 53 = .ok (.aaload, 1) := dk_at bX11_insurer_0 29 rfl
theorem dX11_insurer_54 : decode cX11_insurer 54 = .ok (.aload_n 0, 1) := dk_at bX11_insurer_0 30 rfl
theorem dX11_insurer_55 : decode cX11_insurer 55 = .ok (.getfield 65, 3) := dk_at bX11_insurer_0 31 rfl
theorem dX11_insurer_58 : decode cX11_insurer 58 = .ok (.putfield 128, 3) := dk_at bX11_insurer_0 32 rfl
theorem dX11_insurer_61 : decode cX11_insurer 61 = .ok (.aload_n 0, 1) := dk_at bX11_insurer_0 33 rfl
theorem dX11_insurer_62 : decode cX11_insurer 62 = .ok (.aload_n 3, 1) := dk_at bX11_insurer_0 34 rfl
theorem dX11_insurer_63 : decode cX11_insurer 63 = .ok (.putfield 65, 3) := dk_at bX11_insurer_0 35 rfl
theorem dX11_insurer_66 : decode cX11_insurer 66 = .ok (.aload_n 0, 1) := dk_at bX11_insurer_0 36 rfl
theorem dX11_insurer_67 : decode cX11_insurer 67 = .ok (.getfield 34, 3) := dk_at bX11_insurer_0 37 rfl
theorem dX11_insurer_70 : decode cX11_insurer 70 = .ok (.iload_n 1, 1) := dk_at bX11_insurer_0 38 rfl
theorem dX11_insurer_71 : decode cX11_insurer 71 = .ok (.aaload, 1) := dk_at bX11_insurer_0 39 rfl
theorem bX11_insurer_72 : dk cX11_insurer [(72, .getfield 128, 3), (75, .getfield 131, 3), (78, .ireturn, 1)] = true := by decide +kernel
theorem dX11_insurer_72 : decode cX11_insurer 72 = .ok (.getfield 128, 3) := dk_at bX11_insurer_72 0 rfl
theorem dX11_insurer_75 : decode cX11_insurer 75 = .ok (.getfield 131, 3) := dk_at bX11_insurer_72 1 rfl
theorem dX11_insurer_78 : decode cX11_insurer 78 = .ok (.ireturn, 1) := dk_at bX11_insurer_72 2 rfl
theorem bX11_fault_0 : dk cX11_fault [(0, .iload_n 1, 1), (1, .lookupswitch 43 #[(0, 27), (1, 35)], 27), (28, .aload_n 0, 1), (29, .getfield 21, 3), (32, .getfield 134, 3), (35, .ireturn, 1), (36, .aload_n 0, 1), (37, .getfield 21, 3), (40, .getfield 137, 3), (43, .ireturn, 1), (44, .iconst (-1), 1), (45, .ireturn, 1)] = true := by decide +kernel
theorem dX11_fault_0 : decode cX11_fault 0 = .ok (.iload_n 1, 1) := dk_at bX11_fault_0 0 rfl
theorem dX11_fault_1 : decode cX11_fault 1 = .ok (.lookupswitch 43 #[(0, 27), (1, 35)], 27) := dk_at bX11_fault_0 1 rfl
theorem dX11_fault_28 : decode cX11_fault 28 = .ok (.aload_n 0, 1) := dk_at bX11_fault_0 2 rfl
theorem dX11_fault_29 : decode cX11_fault 29 = .ok (.getfield 21, 3) := dk_at bX11_fault_0 3 rfl
theorem dX11_fault_32 : decode cX11_fault 32 = .ok (.getfield 134, 3) := dk_at bX11_fault_0 4 rfl
theorem dX11_fault_35 : decode cX11_fault 35 = .ok (.ireturn, 1) := dk_at bX11_fault_0 5 rfl
theorem dX11_fault_36 : decode cX11_fault 36 = .ok (.aload_n 0, 1) := dk_at bX11_fault_0 6 rfl
theorem dX11_fault_37 : decode cX11_fault 37 = .ok (.getfield 21, 3) := dk_at bX11_fault_0 7 rfl
theorem dX11_fault_40 : decode cX11_fault 40 = .ok (.getfield 137, 3) := dk_at bX11_fault_0 8 rfl
theorem dX11_fault_43 : decode cX11_fault 43 = .ok (.ireturn, 1) := dk_at bX11_fault_0 9 rfl
theorem dX11_fault_44 : decode cX11_fault 44 = .ok (.iconst (-1), 1) := dk_at bX11_fault_0 10 rfl
theorem dX11_fault_45 : decode cX11_fault 45 = .ok (.ireturn, 1) := dk_at bX11_fault_0 11 rfl
set_option maxRecDepth 20000 in
theorem ggX11_covers_X11_below : GoodIn wsX11_covers wsX11_below := goodIn_r _ [6] rfl (by decide +kernel)
set_option maxRecDepth 20000 in
theorem gX11_covers_X11_below : GoodIn wsX11_covers (va_wsS RX11 84 yX11_below wsX11_below) := goodIn_app (goodIn_r _ [3, 4, 5] rfl (by decide +kernel)) ggX11_covers_X11_below
set_option maxRecDepth 20000 in
theorem ggX11_covers_X11_isPlace : GoodIn wsX11_covers wsX11_isPlace := goodIn_r _ [9, 10, 11, 5, 12, 13, 14, 15] rfl (by decide +kernel)
set_option maxRecDepth 20000 in
theorem gX11_covers_X11_isPlace : GoodIn wsX11_covers (va_wsS RX11 92 yX11_isPlace wsX11_isPlace) := goodIn_app (goodIn_r _ [7, 8, 5] rfl (by decide +kernel)) ggX11_covers_X11_isPlace
set_option maxRecDepth 20000 in
theorem ggX11_covers_X11_within : GoodIn wsX11_covers wsX11_within := goodIn_r _ [18] rfl (by decide +kernel)
set_option maxRecDepth 20000 in
theorem gX11_covers_X11_within : GoodIn wsX11_covers (va_wsS RX11 80 yX11_within wsX11_within) := goodIn_app (goodIn_r _ [16, 17, 5] rfl (by decide +kernel)) ggX11_covers_X11_within
set_option maxRecDepth 20000 in
theorem ggX11_covers_X1_holds : GoodIn wsX11_covers wsX1_holds := goodIn_r _ [23, 24, 25, 26, 27, 28, 29, 22, 30, 31, 11, 5, 12, 32, 33, 34, 35, 36, 37, 38, 39, 40, 41, 17, 18, 14, 15, 42, 43, 44, 60, 61, 62, 63, 64] rfl (by decide +kernel)
set_option maxRecDepth 20000 in
theorem gX11_covers_X1_holds : GoodIn wsX11_covers (wsV RX11 140 RX1 yX1_holds wsX1_holds) := goodIn_app (goodIn_r _ [19, 20, 21, 22] rfl (by decide +kernel)) ggX11_covers_X1_holds
theorem bX11_covers_0 : dk cX11_covers [(0, .iload_n 1, 1), (1, .bipush 6, 2), (3, .invokestatic 84, 3), (6, .ifCond .eq 43, 3), (9, .iload_n 2, 1), (10, .invokestatic 92, 3), (13, .ifCond .eq 36, 3), (16, .iload_n 3, 1), (17, .iconst 0, 1), (18, .sipush 999, 3), (21, .invokestatic 80, 3), (24, .ifCond .eq 25, 3), (27, .iload 4, 2), (29, .iconst 0, 1), (30, .bipush 9, 2), (32, .invokestatic 80, 3), (35, .ifCond .eq 14, 3), (38, .iload 5, 2), (40, .iconst 0, 1), (41, .bipush 9, 2), (43, .invokestatic 80, 3), (46, .ifCond .ne 6, 3), (49, .bipush (-2), 2), (51, .ireturn, 1), (52, .aload_n 0, 1), (53, .getfield 34, 3), (56, .iload_n 1, 1), (57, .aaload, 1), (58, .getfield 128, 3), (61, .iload_n 2, 1), (62, .iload_n 3, 1), (63, .iload 4, 2), (65, .iload 5, 2), (67, .invokevirtual 140, 3), (70, .ifCond .eq 7, 3), (73, .iconst 1, 1), (74, .goto 4, 3), (77, .iconst 0, 1), (78, .ireturn, 1)] = true := by decide +kernel
theorem dX11_covers_0 : decode cX11_covers 0 = .ok (.iload_n 1, 1) := dk_at bX11_covers_0 0 rfl
theorem dX11_covers_1 : decode cX11_covers 1 = .ok (.bipush 6, 2) := dk_at bX11_covers_0 1 rfl
theorem dX11_covers_3 : decode cX11_covers 3 = .ok (.invokestatic 84, 3) := dk_at bX11_covers_0 2 rfl
theorem dX11_covers_6 : decode cX11_covers 6 = .ok (.ifCond .eq 43, 3) := dk_at bX11_covers_0 3 rfl
theorem dX11_covers_9 : decode cX11_covers 9 = .ok (.iload_n 2, 1) := dk_at bX11_covers_0 4 rfl
theorem dX11_covers_10 : decode cX11_covers 10 = .ok (.invokestatic 92, 3) := dk_at bX11_covers_0 5 rfl
theorem dX11_covers_13 : decode cX11_covers 13 = .ok (.ifCond .eq 36, 3) := dk_at bX11_covers_0 6 rfl
theorem dX11_covers_16 : decode cX11_covers 16 = .ok (.iload_n 3, 1) := dk_at bX11_covers_0 7 rfl
theorem dX11_covers_17 : decode cX11_covers 17 = .ok (.iconst 0, 1) := dk_at bX11_covers_0 8 rfl
theorem dX11_covers_18 : decode cX11_covers 18 = .ok (.sipush 999, 3) := dk_at bX11_covers_0 9 rfl
theorem dX11_covers_21 : decode cX11_covers 21 = .ok (.invokestatic 80, 3) := dk_at bX11_covers_0 10 rfl
theorem dX11_covers_24 : decode cX11_covers 24 = .ok (.ifCond .eq 25, 3) := dk_at bX11_covers_0 11 rfl
theorem dX11_covers_27 : decode cX11_covers 27 = .ok (.iload 4, 2) := dk_at bX11_covers_0 12 rfl
theorem dX11_covers_29 : decode cX11_covers 29 = .ok (.iconst 0, 1) := dk_at bX11_covers_0 13 rfl
theorem dX11_covers_30 : decode cX11_covers 30 = .ok (.bipush 9, 2) := dk_at bX11_covers_0 14 rfl
theorem dX11_covers_32 : decode cX11_covers 32 = .ok (.invokestatic 80, 3) := dk_at bX11_covers_0 15 rfl
theorem dX11_covers_35 : decode cX11_covers 35 = .ok (.ifCond .eq 14, 3) := dk_at bX11_covers_0 16 rfl
theorem dX11_covers_38 : decode cX11_covers 38 = .ok (.iload 5, 2) := dk_at bX11_covers_0 17 rfl
theorem dX11_covers_40 : decode cX11_covers 40 = .ok (.iconst 0, 1) := dk_at bX11_covers_0 18 rfl
theorem dX11_covers_41 : decode cX11_covers 41 = .ok (.bipush 9, 2) := dk_at bX11_covers_0 19 rfl
theorem dX11_covers_43 : decode cX11_covers 43 = .ok (.invokestatic 80, 3) := dk_at bX11_covers_0 20 rfl
theorem dX11_covers_46 : decode cX11_covers 46 = .ok (.ifCond .ne 6, 3) := dk_at bX11_covers_0 21 rfl
theorem dX11_covers_49 : decode cX11_covers 49 = .ok (.bipush (-2), 2) := dk_at bX11_covers_0 22 rfl
theorem dX11_covers_51 : decode cX11_covers 51 = .ok (.ireturn, 1) := dk_at bX11_covers_0 23 rfl
theorem dX11_covers_52 : decode cX11_covers 52 = .ok (.aload_n 0, 1) := dk_at bX11_covers_0 24 rfl
theorem dX11_covers_53 : decode cX11_covers 53 = .ok (.getfield 34, 3) := dk_at bX11_covers_0 25 rfl
theorem dX11_covers_56 : decode cX11_covers 56 = .ok (.iload_n 1, 1) := dk_at bX11_covers_0 26 rfl
theorem dX11_covers_57 : decode cX11_covers 57 = .ok (.aaload, 1) := dk_at bX11_covers_0 27 rfl
theorem dX11_covers_58 : decode cX11_covers 58 = .ok (.getfield 128, 3) := dk_at bX11_covers_0 28 rfl
theorem dX11_covers_61 : decode cX11_covers 61 = .ok (.iload_n 2, 1) := dk_at bX11_covers_0 29 rfl
theorem dX11_covers_62 : decode cX11_covers 62 = .ok (.iload_n 3, 1) := dk_at bX11_covers_0 30 rfl
theorem dX11_covers_63 : decode cX11_covers 63 = .ok (.iload 4, 2) := dk_at bX11_covers_0 31 rfl
theorem dX11_covers_65 : decode cX11_covers 65 = .ok (.iload 5, 2) := dk_at bX11_covers_0 32 rfl
theorem dX11_covers_67 : decode cX11_covers 67 = .ok (.invokevirtual 140, 3) := dk_at bX11_covers_0 33 rfl
theorem dX11_covers_70 : decode cX11_covers 70 = .ok (.ifCond .eq 7, 3) := dk_at bX11_covers_0 34 rfl
theorem dX11_covers_73 : decode cX11_covers 73 = .ok (.iconst 1, 1) := dk_at bX11_covers_0 35 rfl
theorem dX11_covers_74 : decode cX11_covers 74 = .ok (.goto 4, 3) := dk_at bX11_covers_0 36 rfl
theorem dX11_covers_77 : decode cX11_covers 77 = .ok (.iconst 0, 1) := dk_at bX11_covers_0 37 rfl
theorem dX11_covers_78 : decode cX11_covers 78 = .ok (.ireturn, 1) := dk_at bX11_covers_0 38 rfl
set_option maxRecDepth 20000 in
theorem ggX11_begin_X11_below : GoodIn wsX11_begin wsX11_below := goodIn_r _ [9] rfl (by decide +kernel)
set_option maxRecDepth 20000 in
theorem gX11_begin_X11_below : GoodIn wsX11_begin (va_wsS RX11 84 yX11_below wsX11_below) := goodIn_app (goodIn_r _ [6, 7, 8] rfl (by decide +kernel)) ggX11_begin_X11_below
set_option maxRecDepth 20000 in
theorem ggX11_begin_X11_within : GoodIn wsX11_begin wsX11_within := goodIn_r _ [12] rfl (by decide +kernel)
set_option maxRecDepth 20000 in
theorem gX11_begin_X11_within : GoodIn wsX11_begin (va_wsS RX11 80 yX11_within wsX11_within) := goodIn_app (goodIn_r _ [10, 11, 8] rfl (by decide +kernel)) ggX11_begin_X11_within
set_option maxRecDepth 20000 in
theorem ggX11_begin_X4_start : GoodIn wsX11_begin wsX4_start := goodIn_r _ [17, 18, 19, 20, 21, 22, 23, 24, 25, 26, 27, 28, 29, 30, 31, 32, 48, 49, 50, 51, 52, 53, 54, 55, 56, 57, 58, 59, 60, 61, 62, 63] rfl (by decide +kernel)
set_option maxRecDepth 20000 in
theorem gX11_begin_X4_start : GoodIn wsX11_begin (wsV RX11 153 RX4 yX4_start wsX4_start) := goodIn_app (goodIn_r _ [13, 14, 15, 16] rfl (by decide +kernel)) ggX11_begin_X4_start
theorem bX11_begin_0 : dk cX11_begin [(0, .iload_n 1, 1), (1, .bipush 6, 2), (3, .invokestatic 84, 3), (6, .ifCond .eq 34, 3), (9, .iload_n 2, 1), (10, .bipush 10, 2), (12, .invokestatic 84, 3), (15, .ifCond .eq 25, 3), (18, .iload_n 3, 1), (19, .iconst 0, 1), (20, .sipush 499, 3), (23, .invokestatic 80, 3), (26, .ifCond .eq 14, 3), (29, .iload 4, 2), (31, .iconst 1, 1), (32, .bipush 9, 2), (34, .invokestatic 80, 3), (37, .ifCond .ne 6, 3), (40, .bipush (-2), 2), (42, .ireturn, 1), (43, .aload_n 0, 1), (44, .getfield 34, 3), (47, .iload_n 1, 1), (48, .aaload, 1), (49, .getfield 144, 3), (52, .getfield 148, 3), (55, .ifCond .ne 6, 3), (58, .bipush (-4), 2), (60, .ireturn, 1), (61, .aload_n 0, 1), (62, .getfield 34, 3), (65, .iload_n 1, 1), (66, .aaload, 1), (67, .getfield 144, 3), (70, .iload_n 2, 1), (71, .aload_n 0, 1), (72, .getfield 28, 3), (75, .getfield 96, 3), (78, .iload_n 2, 1), (79, .iaload, 1)] = true := by decide +kernel
theorem dX11_begin_0 : decode cX11_begin 0 = .ok (.iload_n 1, 1) := dk_at bX11_begin_0 0 rfl
theorem dX11_begin_1 : decode cX11_begin 1 = .ok (.bipush 6, 2) := dk_at bX11_begin_0 1 rfl
theorem dX11_begin_3 : decode cX11_begin 3 = .ok (.invokestatic 84, 3) := dk_at bX11_begin_0 2 rfl
theorem dX11_begin_6 : decode cX11_begin 6 = .ok (.ifCond .eq 34, 3) := dk_at bX11_begin_0 3 rfl
theorem dX11_begin_9 : decode cX11_begin 9 = .ok (.iload_n 2, 1) := dk_at bX11_begin_0 4 rfl
theorem dX11_begin_10 : decode cX11_begin 10 = .ok (.bipush 10, 2) := dk_at bX11_begin_0 5 rfl
theorem dX11_begin_12 : decode cX11_begin 12 = .ok (.invokestatic 84, 3) := dk_at bX11_begin_0 6 rfl
theorem dX11_begin_15 : decode cX11_begin 15 = .ok (.ifCond .eq 25, 3) := dk_at bX11_begin_0 7 rfl
theorem dX11_begin_18 : decode cX11_begin 18 = .ok (.iload_n 3, 1) := dk_at bX11_begin_0 8 rfl
theorem dX11_begin_19 : decode cX11_begin 19 = .ok (.iconst 0, 1) := dk_at bX11_begin_0 9 rfl
theorem dX11_begin_20 : decode cX11_begin 20 = .ok (.sipush 499, 3) := dk_at bX11_begin_0 10 rfl
theorem dX11_begin_23 : decode cX11_begin 23 = .ok (.invokestatic 80, 3) := dk_at bX11_begin_0 11 rfl
theorem dX11_begin_26 : decode cX11_begin 26 = .ok (.ifCond .eq 14, 3) := dk_at bX11_begin_0 12 rfl
theorem dX11_begin_29 : decode cX11_begin 29 = .ok (.iload 4, 2) := dk_at bX11_begin_0 13 rfl
theorem dX11_begin_31 : decode cX11_begin 31 = .ok (.iconst 1, 1) := dk_at bX11_begin_0 14 rfl
theorem dX11_begin_32 : decode cX11_begin 32 = .ok (.bipush 9, 2) := dk_at bX11_begin_0 15 rfl
theorem dX11_begin_34 : decode cX11_begin 34 = .ok (.invokestatic 80, 3) := dk_at bX11_begin_0 16 rfl
theorem dX11_begin_37 : decode cX11_begin 37 = .ok (.ifCond .ne 6, 3) := dk_at bX11_begin_0 17 rfl
theorem dX11_begin_40 : decode cX11_begin 40 = .ok (.bipush (-2), 2) := dk_at bX11_begin_0 18 rfl
theorem dX11_begin_42 : decode cX11_begin 42 = .ok (.ireturn, 1) := dk_at bX11_begin_0 19 rfl
theorem dX11_begin_43 : decode cX11_begin 43 = .ok (.aload_n 0, 1) := dk_at bX11_begin_0 20 rfl
theorem dX11_begin_44 : decode cX11_begin 44 = .ok (.getfield 34, 3) := dk_at bX11_begin_0 21 rfl
theorem dX11_begin_47 : decode cX11_begin 47 = .ok (.iload_n 1, 1) := dk_at bX11_begin_0 22 rfl
theorem dX11_begin_48 : decode cX11_begin 48 = .ok (.aaload, 1) := dk_at bX11_begin_0 23 rfl
theorem dX11_begin_49 : decode cX11_begin 49 = .ok (.getfield 144, 3) := dk_at bX11_begin_0 24 rfl
theorem dX11_begin_52 : decode cX11_begin 52 = .ok (.getfield 148, 3) := dk_at bX11_begin_0 25 rfl
theorem dX11_begin_55 : decode cX11_begin 55 = .ok (.ifCond .ne 6, 3) := dk_at bX11_begin_0 26 rfl
theorem dX11_begin_58 : decode cX11_begin 58 = .ok (.bipush (-4), 2) := dk_at bX11_begin_0 27 rfl
theorem dX11_begin_60 : decode cX11_begin 60 = .ok (.ireturn, 1) := dk_at bX11_begin_0 28 rfl
theorem dX11_begin_61 : decode cX11_begin 61 = .ok (.aload_n 0, 1) := dk_at bX11_begin_0 29 rfl
theorem dX11_begin_62 : decode cX11_begin 62 = .ok (.getfield 34, 3) := dk_at bX11_begin_0 30 rfl
theorem dX11_begin_65 : decode cX11_begin 65 = .ok (.iload_n 1, 1) := dk_at bX11_begin_0 31 rfl
theorem dX11_begin_66 : decode cX11_begin 66 = .ok (.aaload, 1) := dk_at bX11_begin_0 32 rfl
theorem dX11_begin_67 : decode cX11_begin 67 = .ok (.getfield 144, 3) := dk_at bX11_begin_0 33 rfl
theorem dX11_begin_70 : decode cX11_begin 70 = .ok (.iload_n 2, 1) := dk_at bX11_begin_0 34 rfl
theorem dX11_begin_71 : decode cX11_begin 71 = .ok (.aload_n 0, 1) := dk_at bX11_begin_0 35 rfl
theorem dX11_begin_72 : decode cX11_begin 72 = .ok (.getfield 28, 3) := dk_at bX11_begin_0 36 rfl
theorem dX11_begin_75 : decode cX11_begin 75 = .ok (.getfield 96, 3) := dk_at bX11_begin_0 37 rfl
theorem dX11_begin_78 : decode cX11_begin 78 = .ok (.iload_n 2, 1) := dk_at bX11_begin_0 38 rfl
theorem dX11_begin_79 : decode cX11_begin 79 = .ok (.iaload, 1) := dk_at bX11_begin_0 39 rfl
theorem bX11_begin_80 : dk cX11_begin [(80, .iload_n 3, 1), (81, .iload 4, 2), (83, .invokevirtual 153, 3), (86, .iconst 1, 1), (87, .ireturn, 1)] = true := by decide +kernel
theorem dX11_begin_80 : decode cX11_begin 80 = .ok (.iload_n 3, 1) := dk_at bX11_begin_80 0 rfl
theorem dX11_begin_81 : decode cX11_begin 81 = .ok (.iload 4, 2) := dk_at bX11_begin_80 1 rfl
theorem dX11_begin_83 : decode cX11_begin 83 = .ok (.invokevirtual 153, 3) := dk_at bX11_begin_80 2 rfl
theorem dX11_begin_86 : decode cX11_begin 86 = .ok (.iconst 1, 1) := dk_at bX11_begin_80 3 rfl
theorem dX11_begin_87 : decode cX11_begin 87 = .ok (.ireturn, 1) := dk_at bX11_begin_80 4 rfl
set_option maxRecDepth 20000 in
theorem ggX11_place_X11_below : GoodIn wsX11_place wsX11_below := goodIn_r _ [8] rfl (by decide +kernel)
set_option maxRecDepth 20000 in
theorem gX11_place_X11_below : GoodIn wsX11_place (va_wsS RX11 84 yX11_below wsX11_below) := goodIn_app (goodIn_r _ [5, 6, 7] rfl (by decide +kernel)) ggX11_place_X11_below
set_option maxRecDepth 20000 in
theorem ggX11_place_X11_isPlace : GoodIn wsX11_place wsX11_isPlace := goodIn_r _ [11, 12, 13, 7, 14, 15, 16, 17] rfl (by decide +kernel)
set_option maxRecDepth 20000 in
theorem gX11_place_X11_isPlace : GoodIn wsX11_place (va_wsS RX11 92 yX11_isPlace wsX11_isPlace) := goodIn_app (goodIn_r _ [9, 10, 7] rfl (by decide +kernel)) ggX11_place_X11_isPlace
set_option maxRecDepth 20000 in
theorem ggX11_place_X4_addPlace : GoodIn wsX11_place wsX4_addPlace := goodIn_r _ [22, 23, 24, 6, 7, 8, 45, 46, 47, 48, 49, 50, 51, 52, 53, 54, 55, 56, 57, 58, 59, 60] rfl (by decide +kernel)
set_option maxRecDepth 20000 in
theorem gX11_place_X4_addPlace : GoodIn wsX11_place (wsV RX11 160 RX4 yX4_addPlace wsX4_addPlace) := goodIn_app (goodIn_r _ [18, 19, 20, 21] rfl (by decide +kernel)) ggX11_place_X4_addPlace
set_option maxRecDepth 20000 in
theorem ggX11_place_X4_placesLeft : GoodIn wsX11_place wsX4_placesLeft := goodIn_r _ [28, 23, 29, 45, 46, 47, 48, 49, 50, 51, 52, 53, 54, 55, 56, 57, 58, 59, 60] rfl (by decide +kernel)
set_option maxRecDepth 20000 in
theorem gX11_place_X4_placesLeft : GoodIn wsX11_place (wsV RX11 163 RX4 yX4_placesLeft wsX4_placesLeft) := goodIn_app (goodIn_r _ [25, 26, 27, 21] rfl (by decide +kernel)) ggX11_place_X4_placesLeft
theorem bX11_place_0 : dk cX11_place [(0, .iload_n 1, 1), (1, .bipush 6, 2), (3, .invokestatic 84, 3), (6, .ifCond .eq 10, 3), (9, .iload_n 2, 1), (10, .invokestatic 92, 3), (13, .ifCond .ne 6, 3), (16, .bipush (-2), 2), (18, .ireturn, 1), (19, .aload_n 0, 1), (20, .getfield 34, 3), (23, .iload_n 1, 1), (24, .aaload, 1), (25, .getfield 144, 3), (28, .astore_n 3, 1), (29, .aload_n 3, 1), (30, .getfield 148, 3), (33, .ifCond .ne 10, 3), (36, .aload_n 3, 1), (37, .getfield 157, 3), (40, .ifCond .le 6, 3), (43, .bipush (-4), 2), (45, .ireturn, 1), (46, .aload_n 3, 1), (47, .iload_n 2, 1), (48, .invokevirtual 160, 3), (51, .ifCond .eq 10, 3), (54, .aload_n 3, 1), (55, .invokevirtual 163, 3), (58, .goto 5, 3), (61, .bipush (-3), 2), (63, .ireturn, 1)] = true := by decide +kernel
theorem dX11_place_0 : decode cX11_place 0 = .ok (.iload_n 1, 1) := dk_at bX11_place_0 0 rfl
theorem dX11_place_1 : decode cX11_place 1 = .ok (.bipush 6, 2) := dk_at bX11_place_0 1 rfl
theorem dX11_place_3 : decode cX11_place 3 = .ok (.invokestatic 84, 3) := dk_at bX11_place_0 2 rfl
theorem dX11_place_6 : decode cX11_place 6 = .ok (.ifCond .eq 10, 3) := dk_at bX11_place_0 3 rfl
theorem dX11_place_9 : decode cX11_place 9 = .ok (.iload_n 2, 1) := dk_at bX11_place_0 4 rfl
theorem dX11_place_10 : decode cX11_place 10 = .ok (.invokestatic 92, 3) := dk_at bX11_place_0 5 rfl
theorem dX11_place_13 : decode cX11_place 13 = .ok (.ifCond .ne 6, 3) := dk_at bX11_place_0 6 rfl
theorem dX11_place_16 : decode cX11_place 16 = .ok (.bipush (-2), 2) := dk_at bX11_place_0 7 rfl
theorem dX11_place_18 : decode cX11_place 18 = .ok (.ireturn, 1) := dk_at bX11_place_0 8 rfl
theorem dX11_place_19 : decode cX11_place 19 = .ok (.aload_n 0, 1) := dk_at bX11_place_0 9 rfl
theorem dX11_place_20 : decode cX11_place 20 = .ok (.getfield 34, 3) := dk_at bX11_place_0 10 rfl
theorem dX11_place_23 : decode cX11_place 23 = .ok (.iload_n 1, 1) := dk_at bX11_place_0 11 rfl
theorem dX11_place_24 : decode cX11_place 24 = .ok (.aaload, 1) := dk_at bX11_place_0 12 rfl
theorem dX11_place_25 : decode cX11_place 25 = .ok (.getfield 144, 3) := dk_at bX11_place_0 13 rfl
theorem dX11_place_28 : decode cX11_place 28 = .ok (.astore_n 3, 1) := dk_at bX11_place_0 14 rfl
theorem dX11_place_29 : decode cX11_place 29 = .ok (.aload_n 3, 1) := dk_at bX11_place_0 15 rfl
theorem dX11_place_30 : decode cX11_place 30 = .ok (.getfield 148, 3) := dk_at bX11_place_0 16 rfl
theorem dX11_place_33 : decode cX11_place 33 = .ok (.ifCond .ne 10, 3) := dk_at bX11_place_0 17 rfl
theorem dX11_place_36 : decode cX11_place 36 = .ok (.aload_n 3, 1) := dk_at bX11_place_0 18 rfl
theorem dX11_place_37 : decode cX11_place 37 = .ok (.getfield 157, 3) := dk_at bX11_place_0 19 rfl
theorem dX11_place_40 : decode cX11_place 40 = .ok (.ifCond .le 6, 3) := dk_at bX11_place_0 20 rfl
theorem dX11_place_43 : decode cX11_place 43 = .ok (.bipush (-4), 2) := dk_at bX11_place_0 21 rfl
theorem dX11_place_45 : decode cX11_place 45 = .ok (.ireturn, 1) := dk_at bX11_place_0 22 rfl
theorem dX11_place_46 : decode cX11_place 46 = .ok (.aload_n 3, 1) := dk_at bX11_place_0 23 rfl
theorem dX11_place_47 : decode cX11_place 47 = .ok (.iload_n 2, 1) := dk_at bX11_place_0 24 rfl
theorem dX11_place_48 : decode cX11_place 48 = .ok (.invokevirtual 160, 3) := dk_at bX11_place_0 25 rfl
theorem dX11_place_51 : decode cX11_place 51 = .ok (.ifCond .eq 10, 3) := dk_at bX11_place_0 26 rfl
theorem dX11_place_54 : decode cX11_place 54 = .ok (.aload_n 3, 1) := dk_at bX11_place_0 27 rfl
theorem dX11_place_55 : decode cX11_place 55 = .ok (.invokevirtual 163, 3) := dk_at bX11_place_0 28 rfl
theorem dX11_place_58 : decode cX11_place 58 = .ok (.goto 5, 3) := dk_at bX11_place_0 29 rfl
theorem dX11_place_61 : decode cX11_place 61 = .ok (.bipush (-3), 2) := dk_at bX11_place_0 30 rfl
theorem dX11_place_63 : decode cX11_place 63 = .ok (.ireturn, 1) := dk_at bX11_place_0 31 rfl
set_option maxRecDepth 20000 in
theorem ggX11_sail_X11_below : GoodIn wsX11_sail wsX11_below := goodIn_r _ [10] rfl (by decide +kernel)
set_option maxRecDepth 20000 in
theorem gX11_sail_X11_below : GoodIn wsX11_sail (va_wsS RX11 84 yX11_below wsX11_below) := goodIn_app (goodIn_r _ [7, 8, 9] rfl (by decide +kernel)) ggX11_sail_X11_below
set_option maxRecDepth 20000 in
theorem ggX11_sail_X11_within : GoodIn wsX11_sail wsX11_within := goodIn_r _ [13] rfl (by decide +kernel)
set_option maxRecDepth 20000 in
theorem gX11_sail_X11_within : GoodIn wsX11_sail (va_wsS RX11 80 yX11_within wsX11_within) := goodIn_app (goodIn_r _ [11, 12, 9] rfl (by decide +kernel)) ggX11_sail_X11_within
set_option maxRecDepth 20000 in
theorem ggX11_sail_X4_work : GoodIn wsX11_sail wsX4_work := goodIn_r _ [18, 19, 20, 21, 22, 23, 24, 25, 26, 27, 28, 29, 30, 31, 32, 33, 34, 35, 36, 9, 37, 38, 39, 8, 10, 40, 41, 42, 43, 44, 45, 46, 47, 48, 49, 50, 51, 52, 53, 54, 55, 56, 57, 58, 59, 60, 61, 62, 63, 64, 65, 66, 67, 68, 69, 70, 71, 72, 73, 74, 75, 76, 77, 78, 79, 80, 81, 12, 13, 82, 83, 84, 85, 86, 87, 17, 88, 89, 90, 91, 92, 93, 94, 95, 96, 97, 98, 99, 100, 101, 102, 103, 104, 105, 106, 107, 108, 109, 110, 111, 112, 113, 114, 115, 116, 117, 118, 119, 120, 121, 122, 123, 124, 125, 126, 127, 128, 129, 130, 131, 132, 133, 134, 135, 136, 137, 138, 139, 140, 141, 142, 143, 144, 145, 146, 147, 148, 149, 150, 151, 152, 168, 169, 170, 171, 172, 173, 174, 175, 176, 177, 178, 179, 180, 181, 182, 183, 162, 163, 164, 165, 166, 167, 184, 185, 186, 187, 188, 189, 190, 191, 192, 193, 194, 195] rfl (by decide +kernel)
set_option maxRecDepth 20000 in
theorem gX11_sail_X4_work : GoodIn wsX11_sail (wsV RX11 170 RX4 yX4_work wsX4_work) := goodIn_app (goodIn_r _ [14, 15, 16, 17] rfl (by decide +kernel)) ggX11_sail_X4_work
theorem bX11_sail_0 : dk cX11_sail [(0, .iload_n 1, 1), (1, .bipush 6, 2), (3, .invokestatic 84, 3), (6, .ifCond .eq 14, 3), (9, .iload_n 2, 1), (10, .iconst 1, 1), (11, .sipush 400, 3), (14, .invokestatic 80, 3), (17, .ifCond .ne 6, 3), (20, .bipush (-2), 2), (22, .ireturn, 1), (23, .aload_n 0, 1), (24, .getfield 34, 3), (27, .iload_n 1, 1), (28, .aaload, 1), (29, .getfield 144, 3), (32, .astore_n 3, 1), (33, .aload_n 3, 1), (34, .getfield 148, 3), (37, .ifCond .ne 10, 3), (40, .aload_n 3, 1), (41, .getfield 167, 3), (44, .ifCond .ne 6, 3), (47, .bipush (-4), 2), (49, .ireturn, 1), (50, .aload_n 0, 1), (51, .getfield 69, 3), (54, .sipush 2000, 3), (57, .if_icmp .lt 6, 3), (60, .bipush (-3), 2), (62, .ireturn, 1), (63, .iconst 0, 1), (64, .istore 4, 2), (66, .iconst 0, 1), (67, .istore 5, 2), (69, .iload 5, 2), (71, .iload_n 2, 1), (72, .if_icmp .ge 56, 3), (75, .aload_n 0, 1), (76, .getfield 69, 3)] = true := by decide +kernel
theorem dX11_sail_0 : decode cX11_sail 0 = .ok (.iload_n 1, 1) := dk_at bX11_sail_0 0 rfl
theorem dX11_sail_1 : decode cX11_sail 1 = .ok (.bipush 6, 2) := dk_at bX11_sail_0 1 rfl
theorem dX11_sail_3 : decode cX11_sail 3 = .ok (.invokestatic 84, 3) := dk_at bX11_sail_0 2 rfl
theorem dX11_sail_6 : decode cX11_sail 6 = .ok (.ifCond .eq 14, 3) := dk_at bX11_sail_0 3 rfl
theorem dX11_sail_9 : decode cX11_sail 9 = .ok (.iload_n 2, 1) := dk_at bX11_sail_0 4 rfl
theorem dX11_sail_10 : decode cX11_sail 10 = .ok (.iconst 1, 1) := dk_at bX11_sail_0 5 rfl
theorem dX11_sail_11 : decode cX11_sail 11 = .ok (.sipush 400, 3) := dk_at bX11_sail_0 6 rfl
theorem dX11_sail_14 : decode cX11_sail 14 = .ok (.invokestatic 80, 3) := dk_at bX11_sail_0 7 rfl
theorem dX11_sail_17 : decode cX11_sail 17 = .ok (.ifCond .ne 6, 3) := dk_at bX11_sail_0 8 rfl
theorem dX11_sail_20 : decode cX11_sail 20 = .ok (.bipush (-2), 2) := dk_at bX11_sail_0 9 rfl
theorem dX11_sail_22 : decode cX11_sail 22 = .ok (.ireturn, 1) := dk_at bX11_sail_0 10 rfl
theorem dX11_sail_23 : decode cX11_sail 23 = .ok (.aload_n 0, 1) := dk_at bX11_sail_0 11 rfl
theorem dX11_sail_24 : decode cX11_sail 24 = .ok (.getfield 34, 3) := dk_at bX11_sail_0 12 rfl
theorem dX11_sail_27 : decode cX11_sail 27 = .ok (.iload_n 1, 1) := dk_at bX11_sail_0 13 rfl
theorem dX11_sail_28 : decode cX11_sail 28 = .ok (.aaload, 1) := dk_at bX11_sail_0 14 rfl
theorem dX11_sail_29 : decode cX11_sail 29 = .ok (.getfield 144, 3) := dk_at bX11_sail_0 15 rfl
theorem dX11_sail_32 : decode cX11_sail 32 = .ok (.astore_n 3, 1) := dk_at bX11_sail_0 16 rfl
theorem dX11_sail_33 : decode cX11_sail 33 = .ok (.aload_n 3, 1) := dk_at bX11_sail_0 17 rfl
theorem dX11_sail_34 : decode cX11_sail 34 = .ok (.getfield 148, 3) := dk_at bX11_sail_0 18 rfl
theorem dX11_sail_37 : decode cX11_sail 37 = .ok (.ifCond .ne 10, 3) := dk_at bX11_sail_0 19 rfl
theorem dX11_sail_40 : decode cX11_sail 40 = .ok (.aload_n 3, 1) := dk_at bX11_sail_0 20 rfl
theorem dX11_sail_41 : decode cX11_sail 41 = .ok (.getfield 167, 3) := dk_at bX11_sail_0 21 rfl
theorem dX11_sail_44 : decode cX11_sail 44 = .ok (.ifCond .ne 6, 3) := dk_at bX11_sail_0 22 rfl
theorem dX11_sail_47 : decode cX11_sail 47 = .ok (.bipush (-4), 2) := dk_at bX11_sail_0 23 rfl
theorem dX11_sail_49 : decode cX11_sail 49 = .ok (.ireturn, 1) := dk_at bX11_sail_0 24 rfl
theorem dX11_sail_50 : decode cX11_sail 50 = .ok (.aload_n 0, 1) := dk_at bX11_sail_0 25 rfl
theorem dX11_sail_51 : decode cX11_sail 51 = .ok (.getfield 69, 3) := dk_at bX11_sail_0 26 rfl
theorem dX11_sail_54 : decode cX11_sail 54 = .ok (.sipush 2000, 3) := dk_at bX11_sail_0 27 rfl
theorem dX11_sail_57 : decode cX11_sail 57 = .ok (.if_icmp .lt 6, 3) := dk_at bX11_sail_0 28 rfl
theorem dX11_sail_60 : decode cX11_sail 60 = .ok (.bipush (-3), 2) := dk_at bX11_sail_0 29 rfl
theorem dX11_sail_62 : decode cX11_sail 62 = .ok (.ireturn, 1) := dk_at bX11_sail_0 30 rfl
theorem dX11_sail_63 : decode cX11_sail 63 = .ok (.iconst 0, 1) := dk_at bX11_sail_0 31 rfl
theorem dX11_sail_64 : decode cX11_sail 64 = .ok (.istore 4, 2) := dk_at bX11_sail_0 32 rfl
theorem dX11_sail_66 : decode cX11_sail 66 = .ok (.iconst 0, 1) := dk_at bX11_sail_0 33 rfl
theorem dX11_sail_67 : decode cX11_sail 67 = .ok (.istore 5, 2) := dk_at bX11_sail_0 34 rfl
theorem dX11_sail_69 : decode cX11_sail 69 = .ok (.iload 5, 2) := dk_at bX11_sail_0 35 rfl
theorem dX11_sail_71 : decode cX11_sail 71 = .ok (.iload_n 2, 1) := dk_at bX11_sail_0 36 rfl
theorem dX11_sail_72 : decode cX11_sail 72 = .ok (.if_icmp .ge 56, 3) := dk_at bX11_sail_0 37 rfl
theorem dX11_sail_75 : decode cX11_sail 75 = .ok (.aload_n 0, 1) := dk_at bX11_sail_0 38 rfl
theorem dX11_sail_76 : decode cX11_sail 76 = .ok (.getfield 69, 3) := dk_at bX11_sail_0 39 rfl
theorem bX11_sail_79 : dk cX11_sail [(79, .sipush 2000, 3), (82, .if_icmp .ge 46, 3), (85, .aload_n 3, 1), (86, .getfield 148, 3), (89, .ifCond .ne 39, 3), (92, .aload_n 3, 1), (93, .aload_n 0, 1), (94, .getfield 34, 3), (97, .iload_n 1, 1), (98, .aaload, 1), (99, .aload_n 0, 1), (100, .getfield 28, 3), (103, .invokevirtual 170, 3), (106, .ifCond .eq 16, 3), (109, .iinc 4 1, 3), (112, .aload_n 0, 1), (113, .dup, 1), (114, .getfield 69, 3), (117, .iconst 1, 1), (118, .iadd, 1), (119, .putfield 69, 3), (122, .iinc 5 1, 3), (125, .goto (-56), 3), (128, .iload 4, 2), (130, .ireturn, 1)] = true := by decide +kernel
theorem dX11_sail_79 : decode cX11_sail 79 = .ok (.sipush 2000, 3) := dk_at bX11_sail_79 0 rfl
theorem dX11_sail_82 : decode cX11_sail 82 = .ok (.if_icmp .ge 46, 3) := dk_at bX11_sail_79 1 rfl
theorem dX11_sail_85 : decode cX11_sail 85 = .ok (.aload_n 3, 1) := dk_at bX11_sail_79 2 rfl
theorem dX11_sail_86 : decode cX11_sail 86 = .ok (.getfield 148, 3) := dk_at bX11_sail_79 3 rfl
theorem dX11_sail_89 : decode cX11_sail 89 = .ok (.ifCond .ne 39, 3) := dk_at bX11_sail_79 4 rfl
theorem dX11_sail_92 : decode cX11_sail 92 = .ok (.aload_n 3, 1) := dk_at bX11_sail_79 5 rfl
theorem dX11_sail_93 : decode cX11_sail 93 = .ok (.aload_n 0, 1) := dk_at bX11_sail_79 6 rfl
theorem dX11_sail_94 : decode cX11_sail 94 = .ok (.getfield 34, 3) := dk_at bX11_sail_79 7 rfl
theorem dX11_sail_97 : decode cX11_sail 97 = .ok (.iload_n 1, 1) := dk_at bX11_sail_79 8 rfl
theorem dX11_sail_98 : decode cX11_sail 98 = .ok (.aaload, 1) := dk_at bX11_sail_79 9 rfl
theorem dX11_sail_99 : decode cX11_sail 99 = .ok (.aload_n 0, 1) := dk_at bX11_sail_79 10 rfl
theorem dX11_sail_100 : decode cX11_sail 100 = .ok (.getfield 28, 3) := dk_at bX11_sail_79 11 rfl
theorem dX11_sail_103 : decode cX11_sail 103 = .ok (.invokevirtual 170, 3) := dk_at bX11_sail_79 12 rfl
theorem dX11_sail_106 : decode cX11_sail 106 = .ok (.ifCond .eq 16, 3) := dk_at bX11_sail_79 13 rfl
theorem dX11_sail_109 : decode cX11_sail 109 = .ok (.iinc 4 1, 3) := dk_at bX11_sail_79 14 rfl
theorem dX11_sail_112 : decode cX11_sail 112 = .ok (.aload_n 0, 1) := dk_at bX11_sail_79 15 rfl
theorem dX11_sail_113 : decode cX11_sail 113 = .ok (.dup, 1) := dk_at bX11_sail_79 16 rfl
theorem dX11_sail_114 : decode cX11_sail 114 = .ok (.getfield 69, 3) := dk_at bX11_sail_79 17 rfl
theorem dX11_sail_117 : decode cX11_sail 117 = .ok (.iconst 1, 1) := dk_at bX11_sail_79 18 rfl
theorem dX11_sail_118 : decode cX11_sail 118 = .ok (.iadd, 1) := dk_at bX11_sail_79 19 rfl
theorem dX11_sail_119 : decode cX11_sail 119 = .ok (.putfield 69, 3) := dk_at bX11_sail_79 20 rfl
theorem dX11_sail_122 : decode cX11_sail 122 = .ok (.iinc 5 1, 3) := dk_at bX11_sail_79 21 rfl
theorem dX11_sail_125 : decode cX11_sail 125 = .ok (.goto (-56), 3) := dk_at bX11_sail_79 22 rfl
theorem dX11_sail_128 : decode cX11_sail 128 = .ok (.iload 4, 2) := dk_at bX11_sail_79 23 rfl
theorem dX11_sail_130 : decode cX11_sail 130 = .ok (.ireturn, 1) := dk_at bX11_sail_79 24 rfl
set_option maxRecDepth 20000 in
theorem ggX11_passage_X11_below : GoodIn wsX11_passage wsX11_below := goodIn_r _ [7] rfl (by decide +kernel)
set_option maxRecDepth 20000 in
theorem gX11_passage_X11_below : GoodIn wsX11_passage (va_wsS RX11 84 yX11_below wsX11_below) := goodIn_app (goodIn_r _ [4, 5, 6] rfl (by decide +kernel)) ggX11_passage_X11_below
set_option maxRecDepth 20000 in
theorem ggX11_passage_X4_tell : GoodIn wsX11_passage wsX4_tell := goodIn_r _ [12, 13, 14, 15, 16, 17, 18, 19, 20, 21, 22, 23, 24, 25, 11, 26, 27, 28, 44, 45, 46, 47, 48, 49, 50, 51, 52, 53, 54, 55, 56, 57, 58, 59] rfl (by decide +kernel)
set_option maxRecDepth 20000 in
theorem gX11_passage_X4_tell : GoodIn wsX11_passage (wsV RX11 174 RX4 yX4_tell wsX4_tell) := goodIn_app (goodIn_r _ [8, 9, 10, 11] rfl (by decide +kernel)) ggX11_passage_X4_tell
theorem bX11_passage_0 : dk cX11_passage [(0, .iload_n 1, 1), (1, .bipush 6, 2), (3, .invokestatic 84, 3), (6, .ifCond .eq 19, 3), (9, .aload_n 0, 1), (10, .getfield 34, 3), (13, .iload_n 1, 1), (14, .aaload, 1), (15, .getfield 144, 3), (18, .getfield 148, 3), (21, .iconst (-1), 1), (22, .if_icmp .ne 6, 3), (25, .bipush (-9), 2), (27, .ireturn, 1), (28, .aload_n 0, 1), (29, .getfield 34, 3), (32, .iload_n 1, 1), (33, .aaload, 1), (34, .getfield 144, 3), (37, .iload_n 2, 1), (38, .invokevirtual 174, 3), (41, .ireturn, 1)] = true := by decide +kernel
theorem dX11_passage_0 : decode cX11_passage 0 = .ok (.iload_n 1, 1) := dk_at bX11_passage_0 0 rfl
theorem dX11_passage_1 : decode cX11_passage 1 = .ok (.bipush 6, 2) := dk_at bX11_passage_0 1 rfl
theorem dX11_passage_3 : decode cX11_passage 3 = .ok (.invokestatic 84, 3) := dk_at bX11_passage_0 2 rfl
theorem dX11_passage_6 : decode cX11_passage 6 = .ok (.ifCond .eq 19, 3) := dk_at bX11_passage_0 3 rfl
theorem dX11_passage_9 : decode cX11_passage 9 = .ok (.aload_n 0, 1) := dk_at bX11_passage_0 4 rfl
theorem dX11_passage_10 : decode cX11_passage 10 = .ok (.getfield 34, 3) := dk_at bX11_passage_0 5 rfl
theorem dX11_passage_13 : decode cX11_passage 13 = .ok (.iload_n 1, 1) := dk_at bX11_passage_0 6 rfl
theorem dX11_passage_14 : decode cX11_passage 14 = .ok (.aaload, 1) := dk_at bX11_passage_0 7 rfl
theorem dX11_passage_15 : decode cX11_passage 15 = .ok (.getfield 144, 3) := dk_at bX11_passage_0 8 rfl
theorem dX11_passage_18 : decode cX11_passage 18 = .ok (.getfield 148, 3) := dk_at bX11_passage_0 9 rfl
theorem dX11_passage_21 : decode cX11_passage 21 = .ok (.iconst (-1), 1) := dk_at bX11_passage_0 10 rfl
theorem dX11_passage_22 : decode cX11_passage 22 = .ok (.if_icmp .ne 6, 3) := dk_at bX11_passage_0 11 rfl
theorem dX11_passage_25 : decode cX11_passage 25 = .ok (.bipush (-9), 2) := dk_at bX11_passage_0 12 rfl
theorem dX11_passage_27 : decode cX11_passage 27 = .ok (.ireturn, 1) := dk_at bX11_passage_0 13 rfl
theorem dX11_passage_28 : decode cX11_passage 28 = .ok (.aload_n 0, 1) := dk_at bX11_passage_0 14 rfl
theorem dX11_passage_29 : decode cX11_passage 29 = .ok (.getfield 34, 3) := dk_at bX11_passage_0 15 rfl
theorem dX11_passage_32 : decode cX11_passage 32 = .ok (.iload_n 1, 1) := dk_at bX11_passage_0 16 rfl
theorem dX11_passage_33 : decode cX11_passage 33 = .ok (.aaload, 1) := dk_at bX11_passage_0 17 rfl
theorem dX11_passage_34 : decode cX11_passage 34 = .ok (.getfield 144, 3) := dk_at bX11_passage_0 18 rfl
theorem dX11_passage_37 : decode cX11_passage 37 = .ok (.iload_n 2, 1) := dk_at bX11_passage_0 19 rfl
theorem dX11_passage_38 : decode cX11_passage 38 = .ok (.invokevirtual 174, 3) := dk_at bX11_passage_0 20 rfl
theorem dX11_passage_41 : decode cX11_passage 41 = .ok (.ireturn, 1) := dk_at bX11_passage_0 21 rfl
set_option maxRecDepth 20000 in
theorem ggX11_boat_X11_below : GoodIn wsX11_boat wsX11_below := goodIn_r _ [7] rfl (by decide +kernel)
set_option maxRecDepth 20000 in
theorem gX11_boat_X11_below : GoodIn wsX11_boat (va_wsS RX11 84 yX11_below wsX11_below) := goodIn_app (goodIn_r _ [4, 5, 6] rfl (by decide +kernel)) ggX11_boat_X11_below
set_option maxRecDepth 20000 in
theorem ggX11_boat_X11_within : GoodIn wsX11_boat wsX11_within := goodIn_r _ [10] rfl (by decide +kernel)
set_option maxRecDepth 20000 in
theorem gX11_boat_X11_within : GoodIn wsX11_boat (va_wsS RX11 80 yX11_within wsX11_within) := goodIn_app (goodIn_r _ [8, 9, 6] rfl (by decide +kernel)) ggX11_boat_X11_within
set_option maxRecDepth 20000 in
theorem ggX11_boat_X0_broken : GoodIn wsX11_boat wsX0_broken := goodIn_r _ [15, 16, 26, 27, 28, 29, 30, 31] rfl (by decide +kernel)
set_option maxRecDepth 20000 in
theorem gX11_boat_X0_broken : GoodIn wsX11_boat (wsV RX11 178 RX0 yX0_broken wsX0_broken) := goodIn_app (goodIn_r _ [11, 12, 13, 14] rfl (by decide +kernel)) ggX11_boat_X0_broken
theorem bX11_boat_0 : dk cX11_boat [(0, .iload_n 1, 1), (1, .bipush 6, 2), (3, .invokestatic 84, 3), (6, .ifCond .ne 6, 3), (9, .bipush (-9), 2), (11, .ireturn, 1), (12, .iload_n 2, 1), (13, .bipush 10, 2), (15, .bipush 13, 2), (17, .invokestatic 80, 3), (20, .ifCond .eq 18, 3), (23, .aload_n 0, 1), (24, .getfield 34, 3), (27, .iload_n 1, 1), (28, .aaload, 1), (29, .getfield 105, 3), (32, .iload_n 2, 1), (33, .bipush 10, 2), (35, .isub, 1), (36, .iaload, 1), (37, .ireturn, 1), (38, .iload_n 2, 1), (39, .lookupswitch 45 #[(0, 25), (1, 35)], 25), (64, .aload_n 0, 1), (65, .getfield 34, 3), (68, .iload_n 1, 1), (69, .aaload, 1), (70, .getfield 102, 3), (73, .ireturn, 1), (74, .aload_n 0, 1), (75, .getfield 34, 3), (78, .iload_n 1, 1), (79, .aaload, 1), (80, .invokevirtual 178, 3), (83, .ireturn, 1), (84, .bipush (-9), 2), (86, .ireturn, 1)] = true := by decide +kernel
theorem dX11_boat_0 : decode cX11_boat 0 = .ok (.iload_n 1, 1) := dk_at bX11_boat_0 0 rfl
theorem dX11_boat_1 : decode cX11_boat 1 = .ok (.bipush 6, 2) := dk_at bX11_boat_0 1 rfl
theorem dX11_boat_3 : decode cX11_boat 3 = .ok (.invokestatic 84, 3) := dk_at bX11_boat_0 2 rfl
theorem dX11_boat_6 : decode cX11_boat 6 = .ok (.ifCond .ne 6, 3) := dk_at bX11_boat_0 3 rfl
theorem dX11_boat_9 : decode cX11_boat 9 = .ok (.bipush (-9), 2) := dk_at bX11_boat_0 4 rfl
theorem dX11_boat_11 : decode cX11_boat 11 = .ok (.ireturn, 1) := dk_at bX11_boat_0 5 rfl
theorem dX11_boat_12 : decode cX11_boat 12 = .ok (.iload_n 2, 1) := dk_at bX11_boat_0 6 rfl
theorem dX11_boat_13 : decode cX11_boat 13 = .ok (.bipush 10, 2) := dk_at bX11_boat_0 7 rfl
theorem dX11_boat_15 : decode cX11_boat 15 = .ok (.bipush 13, 2) := dk_at bX11_boat_0 8 rfl
theorem dX11_boat_17 : decode cX11_boat 17 = .ok (.invokestatic 80, 3) := dk_at bX11_boat_0 9 rfl
theorem dX11_boat_20 : decode cX11_boat 20 = .ok (.ifCond .eq 18, 3) := dk_at bX11_boat_0 10 rfl
theorem dX11_boat_23 : decode cX11_boat 23 = .ok (.aload_n 0, 1) := dk_at bX11_boat_0 11 rfl
theorem dX11_boat_24 : decode cX11_boat 24 = .ok (.getfield 34, 3) := dk_at bX11_boat_0 12 rfl
theorem dX11_boat_27 : decode cX11_boat 27 = .ok (.iload_n 1, 1) := dk_at bX11_boat_0 13 rfl
theorem dX11_boat_28 : decode cX11_boat 28 = .ok (.aaload, 1) := dk_at bX11_boat_0 14 rfl
theorem dX11_boat_29 : decode cX11_boat 29 = .ok (.getfield 105, 3) := dk_at bX11_boat_0 15 rfl
theorem dX11_boat_32 : decode cX11_boat 32 = .ok (.iload_n 2, 1) := dk_at bX11_boat_0 16 rfl
theorem dX11_boat_33 : decode cX11_boat 33 = .ok (.bipush 10, 2) := dk_at bX11_boat_0 17 rfl
theorem dX11_boat_35 : decode cX11_boat 35 = .ok (.isub, 1) := dk_at bX11_boat_0 18 rfl
theorem dX11_boat_36 : decode cX11_boat 36 = .ok (.iaload, 1) := dk_at bX11_boat_0 19 rfl
theorem dX11_boat_37 : decode cX11_boat 37 = .ok (.ireturn, 1) := dk_at bX11_boat_0 20 rfl
theorem dX11_boat_38 : decode cX11_boat 38 = .ok (.iload_n 2, 1) := dk_at bX11_boat_0 21 rfl
theorem dX11_boat_39 : decode cX11_boat 39 = .ok (.lookupswitch 45 #[(0, 25), (1, 35)], 25) := dk_at bX11_boat_0 22 rfl
theorem dX11_boat_64 : decode cX11_boat 64 = .ok (.aload_n 0, 1) := dk_at bX11_boat_0 23 rfl
theorem dX11_boat_65 : decode cX11_boat 65 = .ok (.getfield 34, 3) := dk_at bX11_boat_0 24 rfl
theorem dX11_boat_68 : decode cX11_boat 68 = .ok (.iload_n 1, 1) := dk_at bX11_boat_0 25 rfl
theorem dX11_boat_69 : decode cX11_boat 69 = .ok (.aaload, 1) := dk_at bX11_boat_0 26 rfl
theorem dX11_boat_70 : decode cX11_boat 70 = .ok (.getfield 102, 3) := dk_at bX11_boat_0 27 rfl
theorem dX11_boat_73 : decode cX11_boat 73 = .ok (.ireturn, 1) := dk_at bX11_boat_0 28 rfl
theorem dX11_boat_74 : decode cX11_boat 74 = .ok (.aload_n 0, 1) := dk_at bX11_boat_0 29 rfl
theorem dX11_boat_75 : decode cX11_boat 75 = .ok (.getfield 34, 3) := dk_at bX11_boat_0 30 rfl
theorem dX11_boat_78 : decode cX11_boat 78 = .ok (.iload_n 1, 1) := dk_at bX11_boat_0 31 rfl
theorem dX11_boat_79 : decode cX11_boat 79 = .ok (.aaload, 1) := dk_at bX11_boat_0 32 rfl
theorem dX11_boat_80 : decode cX11_boat 80 = .ok (.invokevirtual 178, 3) := dk_at bX11_boat_0 33 rfl
theorem dX11_boat_83 : decode cX11_boat 83 = .ok (.ireturn, 1) := dk_at bX11_boat_0 34 rfl
theorem dX11_boat_84 : decode cX11_boat 84 = .ok (.bipush (-9), 2) := dk_at bX11_boat_0 35 rfl
theorem dX11_boat_86 : decode cX11_boat 86 = .ok (.ireturn, 1) := dk_at bX11_boat_0 36 rfl
set_option maxRecDepth 20000 in
theorem ggX11_pay_X11_below : GoodIn wsX11_pay wsX11_below := goodIn_r _ [12] rfl (by decide +kernel)
set_option maxRecDepth 20000 in
theorem gX11_pay_X11_below : GoodIn wsX11_pay (va_wsS RX11 84 yX11_below wsX11_below) := goodIn_app (goodIn_r _ [9, 10, 11] rfl (by decide +kernel)) ggX11_pay_X11_below
set_option maxRecDepth 20000 in
theorem ggX11_pay_X11_within : GoodIn wsX11_pay wsX11_within := goodIn_r _ [15] rfl (by decide +kernel)
set_option maxRecDepth 20000 in
theorem gX11_pay_X11_within : GoodIn wsX11_pay (va_wsS RX11 80 yX11_within wsX11_within) := goodIn_app (goodIn_r _ [13, 14, 11] rfl (by decide +kernel)) ggX11_pay_X11_within
set_option maxRecDepth 20000 in
theorem ggX11_pay_X4_begunDays : GoodIn wsX11_pay wsX4_begunDays := goodIn_r _ [20, 21, 43, 44, 45, 46, 47, 48, 49, 50, 51, 52, 53, 54, 55, 56, 57, 58] rfl (by decide +kernel)
set_option maxRecDepth 20000 in
theorem gX11_pay_X4_begunDays : GoodIn wsX11_pay (wsV RX11 184 RX4 yX4_begunDays wsX4_begunDays) := goodIn_app (goodIn_r _ [16, 17, 18, 19] rfl (by decide +kernel)) ggX11_pay_X4_begunDays
set_option maxRecDepth 20000 in
theorem ggX11_pay_X4_keptWhole : GoodIn wsX11_pay wsX4_keptWhole := goodIn_r _ [25, 26, 27, 43, 44, 45, 46, 47, 48, 49, 50, 51, 52, 53, 54, 55, 56, 57, 58] rfl (by decide +kernel)
set_option maxRecDepth 20000 in
theorem gX11_pay_X4_keptWhole : GoodIn wsX11_pay (wsV RX11 187 RX4 yX4_keptWhole wsX4_keptWhole) := goodIn_app (goodIn_r _ [22, 23, 24, 19] rfl (by decide +kernel)) ggX11_pay_X4_keptWhole
theorem bX11_pay_0 : dk cX11_pay [(0, .iload_n 1, 1), (1, .bipush 6, 2), (3, .invokestatic 84, 3), (6, .ifCond .eq 46, 3), (9, .iload_n 2, 1), (10, .iconst 0, 1), (11, .iconst 1, 1), (12, .invokestatic 80, 3), (15, .ifCond .eq 37, 3), (18, .iload_n 3, 1), (19, .iconst 0, 1), (20, .ldc 181, 2), (22, .invokestatic 80, 3), (25, .ifCond .eq 27, 3), (28, .iload 4, 2), (30, .iconst 0, 1), (31, .sipush 1000, 3), (34, .invokestatic 80, 3), (37, .ifCond .eq 15, 3), (40, .iload 5, 2), (42, .iconst 0, 1), (43, .sipush 1000, 3), (46, .invokestatic 80, 3), (49, .ifCond .ne 6, 3), (52, .ldc 182, 2), (54, .ireturn, 1), (55, .aload_n 0, 1), (56, .getfield 34, 3), (59, .iload_n 1, 1), (60, .aaload, 1), (61, .getfield 144, 3), (64, .astore 6, 2), (66, .aload 6, 2), (68, .getfield 148, 3), (71, .iconst (-1), 1), (72, .if_icmp .ne 6, 3), (75, .ldc 183, 2), (77, .ireturn, 1), (78, .iload_n 2, 1), (79, .ifCond .ne 11, 3)] = true := by decide +kernel
theorem dX11_pay_0 : decode cX11_pay 0 = .ok (.iload_n 1, 1) := dk_at bX11_pay_0 0 rfl
theorem dX11_pay_1 : decode cX11_pay 1 = .ok (.bipush 6, 2) := dk_at bX11_pay_0 1 rfl
theorem dX11_pay_3 : decode cX11_pay 3 = .ok (.invokestatic 84, 3) := dk_at bX11_pay_0 2 rfl
theorem dX11_pay_6 : decode cX11_pay 6 = .ok (.ifCond .eq 46, 3) := dk_at bX11_pay_0 3 rfl
theorem dX11_pay_9 : decode cX11_pay 9 = .ok (.iload_n 2, 1) := dk_at bX11_pay_0 4 rfl
theorem dX11_pay_10 : decode cX11_pay 10 = .ok (.iconst 0, 1) := dk_at bX11_pay_0 5 rfl
theorem dX11_pay_11 : decode cX11_pay 11 = .ok (.iconst 1, 1) := dk_at bX11_pay_0 6 rfl
theorem dX11_pay_12 : decode cX11_pay 12 = .ok (.invokestatic 80, 3) := dk_at bX11_pay_0 7 rfl
theorem dX11_pay_15 : decode cX11_pay 15 = .ok (.ifCond .eq 37, 3) := dk_at bX11_pay_0 8 rfl
theorem dX11_pay_18 : decode cX11_pay 18 = .ok (.iload_n 3, 1) := dk_at bX11_pay_0 9 rfl
theorem dX11_pay_19 : decode cX11_pay 19 = .ok (.iconst 0, 1) := dk_at bX11_pay_0 10 rfl
theorem dX11_pay_20 : decode cX11_pay 20 = .ok (.ldc 181, 2) := dk_at bX11_pay_0 11 rfl
theorem dX11_pay_22 : decode cX11_pay 22 = .ok (.invokestatic 80, 3) := dk_at bX11_pay_0 12 rfl
theorem dX11_pay_25 : decode cX11_pay 25 = .ok (.ifCond .eq 27, 3) := dk_at bX11_pay_0 13 rfl
theorem dX11_pay_28 : decode cX11_pay 28 = .ok (.iload 4, 2) := dk_at bX11_pay_0 14 rfl
theorem dX11_pay_30 : decode cX11_pay 30 = .ok (.iconst 0, 1) := dk_at bX11_pay_0 15 rfl
theorem dX11_pay_31 : decode cX11_pay 31 = .ok (.sipush 1000, 3) := dk_at bX11_pay_0 16 rfl
theorem dX11_pay_34 : decode cX11_pay 34 = .ok (.invokestatic 80, 3) := dk_at bX11_pay_0 17 rfl
theorem dX11_pay_37 : decode cX11_pay 37 = .ok (.ifCond .eq 15, 3) := dk_at bX11_pay_0 18 rfl
theorem dX11_pay_40 : decode cX11_pay 40 = .ok (.iload 5, 2) := dk_at bX11_pay_0 19 rfl
theorem dX11_pay_42 : decode cX11_pay 42 = .ok (.iconst 0, 1) := dk_at bX11_pay_0 20 rfl
theorem dX11_pay_43 : decode cX11_pay 43 = .ok (.sipush 1000, 3) := dk_at bX11_pay_0 21 rfl
theorem dX11_pay_46 : decode cX11_pay 46 = .ok (.invokestatic 80, 3) := dk_at bX11_pay_0 22 rfl
theorem dX11_pay_49 : decode cX11_pay 49 = .ok (.ifCond .ne 6, 3) := dk_at bX11_pay_0 23 rfl
theorem dX11_pay_52 : decode cX11_pay 52 = .ok (.ldc 182, 2) := dk_at bX11_pay_0 24 rfl
theorem dX11_pay_54 : decode cX11_pay 54 = .ok (.ireturn, 1) := dk_at bX11_pay_0 25 rfl
theorem dX11_pay_55 : decode cX11_pay 55 = .ok (.aload_n 0, 1) := dk_at bX11_pay_0 26 rfl
theorem dX11_pay_56 : decode cX11_pay 56 = .ok (.getfield 34, 3) := dk_at bX11_pay_0 27 rfl
theorem dX11_pay_59 : decode cX11_pay 59 = .ok (.iload_n 1, 1) := dk_at bX11_pay_0 28 rfl
theorem dX11_pay_60 : decode cX11_pay 60 = .ok (.aaload, 1) := dk_at bX11_pay_0 29 rfl
theorem dX11_pay_61 : decode cX11_pay 61 = .ok (.getfield 144, 3) := dk_at bX11_pay_0 30 rfl
theorem dX11_pay_64 : decode cX11_pay 64 = .ok (.astore 6, 2) := dk_at bX11_pay_0 31 rfl
theorem dX11_pay_66 : decode cX11_pay 66 = .ok (.aload 6, 2) := dk_at bX11_pay_0 32 rfl
theorem dX11_pay_68 : decode cX11_pay 68 = .ok (.getfield 148, 3) := dk_at bX11_pay_0 33 rfl
theorem dX11_pay_71 : decode cX11_pay 71 = .ok (.iconst (-1), 1) := dk_at bX11_pay_0 34 rfl
theorem dX11_pay_72 : decode cX11_pay 72 = .ok (.if_icmp .ne 6, 3) := dk_at bX11_pay_0 35 rfl
theorem dX11_pay_75 : decode cX11_pay 75 = .ok (.ldc 183, 2) := dk_at bX11_pay_0 36 rfl
theorem dX11_pay_77 : decode cX11_pay 77 = .ok (.ireturn, 1) := dk_at bX11_pay_0 37 rfl
theorem dX11_pay_78 : decode cX11_pay 78 = .ok (.iload_n 2, 1) := dk_at bX11_pay_0 38 rfl
theorem dX11_pay_79 : decode cX11_pay 79 = .ok (.ifCond .ne 11, 3) := dk_at bX11_pay_0 39 rfl
theorem bX11_pay_82 : dk cX11_pay [(82, .aload 6, 2), (84, .invokevirtual 184, 3), (87, .goto 16, 3), (90, .aload 6, 2), (92, .invokevirtual 187, 3), (95, .ifCond .eq 7, 3), (98, .iconst 1, 1), (99, .goto 4, 3), (102, .iconst 0, 1), (103, .istore 7, 2), (105, .iload 7, 2), (107, .iload_n 3, 1), (108, .imul, 1), (109, .iload 4, 2), (111, .aload 6, 2), (113, .getfield 191, 3), (116, .imul, 1), (117, .isub, 1), (118, .iload 5, 2), (120, .aload 6, 2), (122, .getfield 194, 3), (125, .imul, 1), (126, .iadd, 1), (127, .ireturn, 1)] = true := by decide +kernel
theorem dX11_pay_82 : decode cX11_pay 82 = .ok (.aload 6, 2) := dk_at bX11_pay_82 0 rfl
theorem dX11_pay_84 : decode cX11_pay 84 = .ok (.invokevirtual 184, 3) := dk_at bX11_pay_82 1 rfl
theorem dX11_pay_87 : decode cX11_pay 87 = .ok (.goto 16, 3) := dk_at bX11_pay_82 2 rfl
theorem dX11_pay_90 : decode cX11_pay 90 = .ok (.aload 6, 2) := dk_at bX11_pay_82 3 rfl
theorem dX11_pay_92 : decode cX11_pay 92 = .ok (.invokevirtual 187, 3) := dk_at bX11_pay_82 4 rfl
theorem dX11_pay_95 : decode cX11_pay 95 = .ok (.ifCond .eq 7, 3) := dk_at bX11_pay_82 5 rfl
theorem dX11_pay_98 : decode cX11_pay 98 = .ok (.iconst 1, 1) := dk_at bX11_pay_82 6 rfl
theorem dX11_pay_99 : decode cX11_pay 99 = .ok (.goto 4, 3) := dk_at bX11_pay_82 7 rfl
theorem dX11_pay_102 : decode cX11_pay 102 = .ok (.iconst 0, 1) := dk_at bX11_pay_82 8 rfl
theorem dX11_pay_103 : decode cX11_pay 103 = .ok (.istore 7, 2) := dk_at bX11_pay_82 9 rfl
theorem dX11_pay_105 : decode cX11_pay 105 = .ok (.iload 7, 2) := dk_at bX11_pay_82 10 rfl
theorem dX11_pay_107 : decode cX11_pay 107 = .ok (.iload_n 3, 1) := dk_at bX11_pay_82 11 rfl
theorem dX11_pay_108 : decode cX11_pay 108 = .ok (.imul, 1) := dk_at bX11_pay_82 12 rfl
theorem dX11_pay_109 : decode cX11_pay 109 = .ok (.iload 4, 2) := dk_at bX11_pay_82 13 rfl
theorem dX11_pay_111 : decode cX11_pay 111 = .ok (.aload 6, 2) := dk_at bX11_pay_82 14 rfl
theorem dX11_pay_113 : decode cX11_pay 113 = .ok (.getfield 191, 3) := dk_at bX11_pay_82 15 rfl
theorem dX11_pay_116 : decode cX11_pay 116 = .ok (.imul, 1) := dk_at bX11_pay_82 16 rfl
theorem dX11_pay_117 : decode cX11_pay 117 = .ok (.isub, 1) := dk_at bX11_pay_82 17 rfl
theorem dX11_pay_118 : decode cX11_pay 118 = .ok (.iload 5, 2) := dk_at bX11_pay_82 18 rfl
theorem dX11_pay_120 : decode cX11_pay 120 = .ok (.aload 6, 2) := dk_at bX11_pay_82 19 rfl
theorem dX11_pay_122 : decode cX11_pay 122 = .ok (.getfield 194, 3) := dk_at bX11_pay_82 20 rfl
theorem dX11_pay_125 : decode cX11_pay 125 = .ok (.imul, 1) := dk_at bX11_pay_82 21 rfl
theorem dX11_pay_126 : decode cX11_pay 126 = .ok (.iadd, 1) := dk_at bX11_pay_82 22 rfl
theorem dX11_pay_127 : decode cX11_pay 127 = .ok (.ireturn, 1) := dk_at bX11_pay_82 23 rfl
set_option maxRecDepth 20000 in
theorem ggX11_deliver_X11_below : GoodIn wsX11_deliver wsX11_below := goodIn_r _ [8] rfl (by decide +kernel)
set_option maxRecDepth 20000 in
theorem gX11_deliver_X11_below : GoodIn wsX11_deliver (va_wsS RX11 84 yX11_below wsX11_below) := goodIn_app (goodIn_r _ [5, 6, 7] rfl (by decide +kernel)) ggX11_deliver_X11_below
set_option maxRecDepth 20000 in
theorem ggX11_deliver_X11_within : GoodIn wsX11_deliver wsX11_within := goodIn_r _ [11] rfl (by decide +kernel)
set_option maxRecDepth 20000 in
theorem gX11_deliver_X11_within : GoodIn wsX11_deliver (va_wsS RX11 80 yX11_within wsX11_within) := goodIn_app (goodIn_r _ [9, 10, 7] rfl (by decide +kernel)) ggX11_deliver_X11_within
set_option maxRecDepth 20000 in
theorem ggX11_deliver_X2_add : GoodIn wsX11_deliver wsX2_add := goodIn_r _ [16, 17, 18, 19, 20, 21, 22, 6, 7, 8, 32, 33, 34, 35, 36, 37, 38, 39, 40] rfl (by decide +kernel)
set_option maxRecDepth 20000 in
theorem gX11_deliver_X2_add : GoodIn wsX11_deliver (wsV RX11 202 RX2 yX2_add wsX2_add) := goodIn_app (goodIn_r _ [12, 13, 14, 15] rfl (by decide +kernel)) ggX11_deliver_X2_add
theorem bX11_deliver_0 : dk cX11_deliver [(0, .iload_n 1, 1), (1, .bipush 10, 2), (3, .invokestatic 84, 3), (6, .ifCond .eq 48, 3), (9, .iload_n 2, 1), (10, .bipush 10, 2), (12, .invokestatic 84, 3), (15, .ifCond .eq 39, 3), (18, .iload_n 3, 1), (19, .iconst 1, 1), (20, .sipush 200, 3), (23, .invokestatic 80, 3), (26, .ifCond .eq 28, 3), (29, .iload 4, 2), (31, .iconst 0, 1), (32, .sipush 999, 3), (35, .invokestatic 80, 3), (38, .ifCond .eq 16, 3), (41, .iload 5, 2), (43, .iload 4, 2), (45, .sipush 999, 3), (48, .invokestatic 80, 3), (51, .ifCond .ne 6, 3), (54, .bipush (-2), 2), (56, .ireturn, 1), (57, .aload_n 0, 1), (58, .getfield 42, 3), (61, .getfield 197, 3), (64, .bipush 7, 2), (66, .if_icmp .lt 6, 3), (69, .bipush (-3), 2), (71, .ireturn, 1), (72, .aload_n 0, 1), (73, .getfield 51, 3), (76, .iconst 0, 1), (77, .putfield 198, 3), (80, .aload_n 0, 1), (81, .getfield 42, 3), (84, .iload_n 1, 1), (85, .iload_n 2, 1)] = true := by decide +kernel
theorem dX11_deliver_0 : decode cX11_deliver 0 = .ok (.iload_n 1, 1) := dk_at bX11_deliver_0 0 rfl
theorem dX11_deliver_1 : decode cX11_deliver 1 = .ok (.bipush 10, 2) := dk_at bX11_deliver_0 1 rfl
theorem dX11_deliver_3 : decode cX11_deliver 3 = .ok (.invokestatic 84, 3) := dk_at bX11_deliver_0 2 rfl
theorem dX11_deliver_6 : decode cX11_deliver 6 = .ok (.ifCond .eq 48, 3) := dk_at bX11_deliver_0 3 rfl
theorem dX11_deliver_9 : decode cX11_deliver 9 = .ok (.iload_n 2, 1) := dk_at bX11_deliver_0 4 rfl
theorem dX11_deliver_10 : decode cX11_deliver 10 = .ok (.bipush 10, 2) := dk_at bX11_deliver_0 5 rfl
theorem dX11_deliver_12 : decode cX11_deliver 12 = .ok (.invokestatic 84, 3) := dk_at bX11_deliver_0 6 rfl
theorem dX11_deliver_15 : decode cX11_deliver 15 = .ok (.ifCond .eq 39, 3) := dk_at bX11_deliver_0 7 rfl
theorem dX11_deliver_18 : decode cX11_deliver 18 = .ok (.iload_n 3, 1) := dk_at bX11_deliver_0 8 rfl
theorem dX11_deliver_19 : decode cX11_deliver 19 = .ok (.iconst 1, 1) := dk_at bX11_deliver_0 9 rfl
theorem dX11_deliver_20 : decode cX11_deliver 20 = .ok (.sipush 200, 3) := dk_at bX11_deliver_0 10 rfl
theorem dX11_deliver_23 : decode cX11_deliver 23 = .ok (.invokestatic 80, 3) := dk_at bX11_deliver_0 11 rfl
theorem dX11_deliver_26 : decode cX11_deliver 26 = .ok (.ifCond .eq 28, 3) := dk_at bX11_deliver_0 12 rfl
theorem dX11_deliver_29 : decode cX11_deliver 29 = .ok (.iload 4, 2) := dk_at bX11_deliver_0 13 rfl
theorem dX11_deliver_31 : decode cX11_deliver 31 = .ok (.iconst 0, 1) := dk_at bX11_deliver_0 14 rfl
theorem dX11_deliver_32 : decode cX11_deliver 32 = .ok (.sipush 999, 3) := dk_at bX11_deliver_0 15 rfl
theorem dX11_deliver_35 : decode cX11_deliver 35 = .ok (.invokestatic 80, 3) := dk_at bX11_deliver_0 16 rfl
theorem dX11_deliver_38 : decode cX11_deliver 38 = .ok (.ifCond .eq 16, 3) := dk_at bX11_deliver_0 17 rfl
theorem dX11_deliver_41 : decode cX11_deliver 41 = .ok (.iload 5, 2) := dk_at bX11_deliver_0 18 rfl
theorem dX11_deliver_43 : decode cX11_deliver 43 = .ok (.iload 4, 2) := dk_at bX11_deliver_0 19 rfl
theorem dX11_deliver_45 : decode cX11_deliver 45 = .ok (.sipush 999, 3) := dk_at bX11_deliver_0 20 rfl
theorem dX11_deliver_48 : decode cX11_deliver 48 = .ok (.invokestatic 80, 3) := dk_at bX11_deliver_0 21 rfl
theorem dX11_deliver_51 : decode cX11_deliver 51 = .ok (.ifCond .ne 6, 3) := dk_at bX11_deliver_0 22 rfl
theorem dX11_deliver_54 : decode cX11_deliver 54 = .ok (.bipush (-2), 2) := dk_at bX11_deliver_0 23 rfl
theorem dX11_deliver_56 : decode cX11_deliver 56 = .ok (.ireturn, 1) := dk_at bX11_deliver_0 24 rfl
theorem dX11_deliver_57 : decode cX11_deliver 57 = .ok (.aload_n 0, 1) := dk_at bX11_deliver_0 25 rfl
theorem dX11_deliver_58 : decode cX11_deliver 58 = .ok (.getfield 42, 3) := dk_at bX11_deliver_0 26 rfl
theorem dX11_deliver_61 : decode cX11_deliver 61 = .ok (.getfield 197, 3) := dk_at bX11_deliver_0 27 rfl
theorem dX11_deliver_64 : decode cX11_deliver 64 = .ok (.bipush 7, 2) := dk_at bX11_deliver_0 28 rfl
theorem dX11_deliver_66 : decode cX11_deliver 66 = .ok (.if_icmp .lt 6, 3) := dk_at bX11_deliver_0 29 rfl
theorem dX11_deliver_69 : decode cX11_deliver 69 = .ok (.bipush (-3), 2) := dk_at bX11_deliver_0 30 rfl
theorem dX11_deliver_71 : decode cX11_deliver 71 = .ok (.ireturn, 1) := dk_at bX11_deliver_0 31 rfl
theorem dX11_deliver_72 : decode cX11_deliver 72 = .ok (.aload_n 0, 1) := dk_at bX11_deliver_0 32 rfl
theorem dX11_deliver_73 : decode cX11_deliver 73 = .ok (.getfield 51, 3) := dk_at bX11_deliver_0 33 rfl
theorem dX11_deliver_76 : decode cX11_deliver 76 = .ok (.iconst 0, 1) := dk_at bX11_deliver_0 34 rfl
theorem dX11_deliver_77 : decode cX11_deliver 77 = .ok (.putfield 198, 3) := dk_at bX11_deliver_0 35 rfl
theorem dX11_deliver_80 : decode cX11_deliver 80 = .ok (.aload_n 0, 1) := dk_at bX11_deliver_0 36 rfl
theorem dX11_deliver_81 : decode cX11_deliver 81 = .ok (.getfield 42, 3) := dk_at bX11_deliver_0 37 rfl
theorem dX11_deliver_84 : decode cX11_deliver 84 = .ok (.iload_n 1, 1) := dk_at bX11_deliver_0 38 rfl
theorem dX11_deliver_85 : decode cX11_deliver 85 = .ok (.iload_n 2, 1) := dk_at bX11_deliver_0 39 rfl
theorem bX11_deliver_86 : dk cX11_deliver [(86, .iload_n 3, 1), (87, .iload 4, 2), (89, .iload 5, 2), (91, .invokevirtual 202, 3), (94, .ireturn, 1)] = true := by decide +kernel
theorem dX11_deliver_86 : decode cX11_deliver 86 = .ok (.iload_n 3, 1) := dk_at bX11_deliver_86 0 rfl
theorem dX11_deliver_87 : decode cX11_deliver 87 = .ok (.iload 4, 2) := dk_at bX11_deliver_86 1 rfl
theorem dX11_deliver_89 : decode cX11_deliver 89 = .ok (.iload 5, 2) := dk_at bX11_deliver_86 2 rfl
theorem dX11_deliver_91 : decode cX11_deliver 91 = .ok (.invokevirtual 202, 3) := dk_at bX11_deliver_86 3 rfl
theorem dX11_deliver_94 : decode cX11_deliver 94 = .ok (.ireturn, 1) := dk_at bX11_deliver_86 4 rfl
set_option maxRecDepth 20000 in
theorem ggX11_crew_X11_below : GoodIn wsX11_crew wsX11_below := goodIn_r _ [9] rfl (by decide +kernel)
set_option maxRecDepth 20000 in
theorem gX11_crew_X11_below : GoodIn wsX11_crew (va_wsS RX11 84 yX11_below wsX11_below) := goodIn_app (goodIn_r _ [6, 7, 8] rfl (by decide +kernel)) ggX11_crew_X11_below
set_option maxRecDepth 20000 in
theorem ggX11_crew_X11_within : GoodIn wsX11_crew wsX11_within := goodIn_r _ [12] rfl (by decide +kernel)
set_option maxRecDepth 20000 in
theorem gX11_crew_X11_within : GoodIn wsX11_crew (va_wsS RX11 80 yX11_within wsX11_within) := goodIn_app (goodIn_r _ [10, 11, 8] rfl (by decide +kernel)) ggX11_crew_X11_within
theorem bX11_crew_0 : dk cX11_crew [(0, .iload_n 1, 1), (1, .iconst 4, 1), (2, .invokestatic 84, 3), (5, .ifCond .eq 23, 3), (8, .iload_n 2, 1), (9, .bipush 10, 2), (11, .invokestatic 84, 3), (14, .ifCond .eq 14, 3), (17, .iload_n 3, 1), (18, .iconst 0, 1), (19, .sipush 999, 3), (22, .invokestatic 80, 3), (25, .ifCond .ne 6, 3), (28, .bipush (-2), 2), (30, .ireturn, 1), (31, .aload_n 0, 1), (32, .getfield 51, 3), (35, .iconst 0, 1), (36, .putfield 198, 3), (39, .aload_n 0, 1), (40, .getfield 42, 3), (43, .getfield 206, 3), (46, .iload_n 1, 1), (47, .iload_n 2, 1), (48, .iastore, 1), (49, .aload_n 0, 1), (50, .getfield 42, 3), (53, .getfield 209, 3), (56, .iload_n 1, 1), (57, .iload_n 3, 1), (58, .iastore, 1), (59, .iconst 1, 1), (60, .ireturn, 1)] = true := by decide +kernel
theorem dX11_crew_0 : decode cX11_crew 0 = .ok (.iload_n 1, 1) := dk_at bX11_crew_0 0 rfl
theorem dX11_crew_1 : decode cX11_crew 1 = .ok (.iconst 4, 1) := dk_at bX11_crew_0 1 rfl
theorem dX11_crew_2 : decode cX11_crew 2 = .ok (.invokestatic 84, 3) := dk_at bX11_crew_0 2 rfl
theorem dX11_crew_5 : decode cX11_crew 5 = .ok (.ifCond .eq 23, 3) := dk_at bX11_crew_0 3 rfl
theorem dX11_crew_8 : decode cX11_crew 8 = .ok (.iload_n 2, 1) := dk_at bX11_crew_0 4 rfl
theorem dX11_crew_9 : decode cX11_crew 9 = .ok (.bipush 10, 2) := dk_at bX11_crew_0 5 rfl
theorem dX11_crew_11 : decode cX11_crew 11 = .ok (.invokestatic 84, 3) := dk_at bX11_crew_0 6 rfl
theorem dX11_crew_14 : decode cX11_crew 14 = .ok (.ifCond .eq 14, 3) := dk_at bX11_crew_0 7 rfl
theorem dX11_crew_17 : decode cX11_crew 17 = .ok (.iload_n 3, 1) := dk_at bX11_crew_0 8 rfl
theorem dX11_crew_18 : decode cX11_crew 18 = .ok (.iconst 0, 1) := dk_at bX11_crew_0 9 rfl
theorem dX11_crew_19 : decode cX11_crew 19 = .ok (.sipush 999, 3) := dk_at bX11_crew_0 10 rfl
theorem dX11_crew_22 : decode cX11_crew 22 = .ok (.invokestatic 80, 3) := dk_at bX11_crew_0 11 rfl
theorem dX11_crew_25 : decode cX11_crew 25 = .ok (.ifCond .ne 6, 3) := dk_at bX11_crew_0 12 rfl
theorem dX11_crew_28 : decode cX11_crew 28 = .ok (.bipush (-2), 2) := dk_at bX11_crew_0 13 rfl
theorem dX11_crew_30 : decode cX11_crew 30 = .ok (.ireturn, 1) := dk_at bX11_crew_0 14 rfl
theorem dX11_crew_31 : decode cX11_crew 31 = .ok (.aload_n 0, 1) := dk_at bX11_crew_0 15 rfl
theorem dX11_crew_32 : decode cX11_crew 32 = .ok (.getfield 51, 3) := dk_at bX11_crew_0 16 rfl
theorem dX11_crew_35 : decode cX11_crew 35 = .ok (.iconst 0, 1) := dk_at bX11_crew_0 17 rfl
theorem dX11_crew_36 : decode cX11_crew 36 = .ok (.putfield 198, 3) := dk_at bX11_crew_0 18 rfl
theorem dX11_crew_39 : decode cX11_crew 39 = .ok (.aload_n 0, 1) := dk_at bX11_crew_0 19 rfl
theorem dX11_crew_40 : decode cX11_crew 40 = .ok (.getfield 42, 3) := dk_at bX11_crew_0 20 rfl
theorem dX11_crew_43 : decode cX11_crew 43 = .ok (.getfield 206, 3) := dk_at bX11_crew_0 21 rfl
theorem dX11_crew_46 : decode cX11_crew 46 = .ok (.iload_n 1, 1) := dk_at bX11_crew_0 22 rfl
theorem dX11_crew_47 : decode cX11_crew 47 = .ok (.iload_n 2, 1) := dk_at bX11_crew_0 23 rfl
theorem dX11_crew_48 : decode cX11_crew 48 = .ok (.iastore, 1) := dk_at bX11_crew_0 24 rfl
theorem dX11_crew_49 : decode cX11_crew 49 = .ok (.aload_n 0, 1) := dk_at bX11_crew_0 25 rfl
theorem dX11_crew_50 : decode cX11_crew 50 = .ok (.getfield 42, 3) := dk_at bX11_crew_0 26 rfl
theorem dX11_crew_53 : decode cX11_crew 53 = .ok (.getfield 209, 3) := dk_at bX11_crew_0 27 rfl
theorem dX11_crew_56 : decode cX11_crew 56 = .ok (.iload_n 1, 1) := dk_at bX11_crew_0 28 rfl
theorem dX11_crew_57 : decode cX11_crew 57 = .ok (.iload_n 3, 1) := dk_at bX11_crew_0 29 rfl
theorem dX11_crew_58 : decode cX11_crew 58 = .ok (.iastore, 1) := dk_at bX11_crew_0 30 rfl
theorem dX11_crew_59 : decode cX11_crew 59 = .ok (.iconst 1, 1) := dk_at bX11_crew_0 31 rfl
theorem dX11_crew_60 : decode cX11_crew 60 = .ok (.ireturn, 1) := dk_at bX11_crew_0 32 rfl
set_option maxRecDepth 20000 in
theorem ggX11_flight_X11_below : GoodIn wsX11_flight wsX11_below := goodIn_r _ [8] rfl (by decide +kernel)
set_option maxRecDepth 20000 in
theorem gX11_flight_X11_below : GoodIn wsX11_flight (va_wsS RX11 84 yX11_below wsX11_below) := goodIn_app (goodIn_r _ [5, 6, 7] rfl (by decide +kernel)) ggX11_flight_X11_below
set_option maxRecDepth 20000 in
theorem ggX11_flight_X11_within : GoodIn wsX11_flight wsX11_within := goodIn_r _ [11] rfl (by decide +kernel)
set_option maxRecDepth 20000 in
theorem gX11_flight_X11_within : GoodIn wsX11_flight (va_wsS RX11 80 yX11_within wsX11_within) := goodIn_app (goodIn_r _ [9, 10, 7] rfl (by decide +kernel)) ggX11_flight_X11_within
theorem bX11_flight_0 : dk cX11_flight [(0, .iload_n 1, 1), (1, .bipush 10, 2), (3, .invokestatic 84, 3), (6, .ifCond .eq 28, 3), (9, .iload_n 2, 1), (10, .bipush 10, 2), (12, .invokestatic 84, 3), (15, .ifCond .eq 19, 3), (18, .iload_n 1, 1), (19, .iload_n 2, 1), (20, .if_icmp .eq 14, 3), (23, .iload_n 3, 1), (24, .iconst (-1), 1), (25, .sipush 10000, 3), (28, .invokestatic 80, 3), (31, .ifCond .ne 6, 3), (34, .bipush (-2), 2), (36, .ireturn, 1), (37, .aload_n 0, 1), (38, .getfield 51, 3), (41, .iconst 0, 1), (42, .putfield 198, 3), (45, .aload_n 0, 1), (46, .getfield 42, 3), (49, .getfield 212, 3), (52, .iload_n 1, 1), (53, .bipush 10, 2), (55, .imul, 1), (56, .iload_n 2, 1), (57, .iadd, 1), (58, .iaload, 1), (59, .istore 4, 2), (61, .aload_n 0, 1), (62, .getfield 42, 3), (65, .getfield 212, 3), (68, .iload_n 1, 1), (69, .bipush 10, 2), (71, .imul, 1), (72, .iload_n 2, 1), (73, .iadd, 1)] = true := by decide +kernel
theorem dX11_flight_0 : decode cX11_flight 0 = .ok (.iload_n 1, 1) := dk_at bX11_flight_0 0 rfl
theorem dX11_flight_1 : decode cX11_flight 1 = .ok (.bipush 10, 2) := dk_at bX11_flight_0 1 rfl
theorem dX11_flight_3 : decode cX11_flight 3 = .ok (.invokestatic 84, 3) := dk_at bX11_flight_0 2 rfl
theorem dX11_flight_6 : decode cX11_flight 6 = .ok (.ifCond .eq 28, 3) := dk_at bX11_flight_0 3 rfl
theorem dX11_flight_9 : decode cX11_flight 9 = .ok (.iload_n 2, 1) := dk_at bX11_flight_0 4 rfl
theorem dX11_flight_10 : decode cX11_flight 10 = .ok (.bipush 10, 2) := dk_at bX11_flight_0 5 rfl
theorem dX11_flight_12 : decode cX11_flight 12 = .ok (.invokestatic 84, 3) := dk_at bX11_flight_0 6 rfl
theorem dX11_flight_15 : decode cX11_flight 15 = .ok (.ifCond .eq 19, 3) := dk_at bX11_flight_0 7 rfl
theorem dX11_flight_18 : decode cX11_flight 18 = .ok (.iload_n 1, 1) := dk_at bX11_flight_0 8 rfl
theorem dX11_flight_19 : decode cX11_flight 19 = .ok (.iload_n 2, 1) := dk_at bX11_flight_0 9 rfl
theorem dX11_flight_20 : decode cX11_flight 20 = .ok (.if_icmp .eq 14, 3) := dk_at bX11_flight_0 10 rfl
theorem dX11_flight_23 : decode cX11_flight 23 = .ok (.iload_n 3, 1) := dk_at bX11_flight_0 11 rfl
theorem dX11_flight_24 : decode cX11_flight 24 = .ok (.iconst (-1), 1) := dk_at bX11_flight_0 12 rfl
theorem dX11_flight_25 : decode cX11_flight 25 = .ok (.sipush 10000, 3) := dk_at bX11_flight_0 13 rfl
theorem dX11_flight_28 : decode cX11_flight 28 = .ok (.invokestatic 80, 3) := dk_at bX11_flight_0 14 rfl
theorem dX11_flight_31 : decode cX11_flight 31 = .ok (.ifCond .ne 6, 3) := dk_at bX11_flight_0 15 rfl
theorem dX11_flight_34 : decode cX11_flight 34 = .ok (.bipush (-2), 2) := dk_at bX11_flight_0 16 rfl
theorem dX11_flight_36 : decode cX11_flight 36 = .ok (.ireturn, 1) := dk_at bX11_flight_0 17 rfl
theorem dX11_flight_37 : decode cX11_flight 37 = .ok (.aload_n 0, 1) := dk_at bX11_flight_0 18 rfl
theorem dX11_flight_38 : decode cX11_flight 38 = .ok (.getfield 51, 3) := dk_at bX11_flight_0 19 rfl
theorem dX11_flight_41 : decode cX11_flight 41 = .ok (.iconst 0, 1) := dk_at bX11_flight_0 20 rfl
theorem dX11_flight_42 : decode cX11_flight 42 = .ok (.putfield 198, 3) := dk_at bX11_flight_0 21 rfl
theorem dX11_flight_45 : decode cX11_flight 45 = .ok (.aload_n 0, 1) := dk_at bX11_flight_0 22 rfl
theorem dX11_flight_46 : decode cX11_flight 46 = .ok (.getfield 42, 3) := dk_at bX11_flight_0 23 rfl
theorem dX11_flight_49 : decode cX11_flight 49 = .ok (.getfield 212, 3) := dk_at bX11_flight_0 24 rfl
theorem dX11_flight_52 : decode cX11_flight 52 = .ok (.iload_n 1, 1) := dk_at bX11_flight_0 25 rfl
theorem dX11_flight_53 : decode cX11_flight 53 = .ok (.bipush 10, 2) := dk_at bX11_flight_0 26 rfl
theorem dX11_flight_55 : decode cX11_flight 55 = .ok (.imul, 1) := dk_at bX11_flight_0 27 rfl
theorem dX11_flight_56 : decode cX11_flight 56 = .ok (.iload_n 2, 1) := dk_at bX11_flight_0 28 rfl
theorem dX11_flight_57 : decode cX11_flight 57 = .ok (.iadd, 1) := dk_at bX11_flight_0 29 rfl
theorem dX11_flight_58 : decode cX11_flight 58 = .ok (.iaload, 1) := dk_at bX11_flight_0 30 rfl
theorem dX11_flight_59 : decode cX11_flight 59 = .ok (.istore 4, 2) := dk_at bX11_flight_0 31 rfl
theorem dX11_flight_61 : decode cX11_flight 61 = .ok (.aload_n 0, 1) := dk_at bX11_flight_0 32 rfl
theorem dX11_flight_62 : decode cX11_flight 62 = .ok (.getfield 42, 3) := dk_at bX11_flight_0 33 rfl
theorem dX11_flight_65 : decode cX11_flight 65 = .ok (.getfield 212, 3) := dk_at bX11_flight_0 34 rfl
theorem dX11_flight_68 : decode cX11_flight 68 = .ok (.iload_n 1, 1) := dk_at bX11_flight_0 35 rfl
theorem dX11_flight_69 : decode cX11_flight 69 = .ok (.bipush 10, 2) := dk_at bX11_flight_0 36 rfl
theorem dX11_flight_71 : decode cX11_flight 71 = .ok (.imul, 1) := dk_at bX11_flight_0 37 rfl
theorem dX11_flight_72 : decode cX11_flight 72 = .ok (.iload_n 2, 1) := dk_at bX11_flight_0 38 rfl
theorem dX11_flight_73 : decode cX11_flight 73 = .ok (.iadd, 1) := dk_at bX11_flight_0 39 rfl
theorem bX11_flight_74 : dk cX11_flight [(74, .iload_n 3, 1), (75, .iastore, 1), (76, .aload_n 0, 1), (77, .getfield 42, 3), (80, .getfield 212, 3), (83, .iload_n 2, 1), (84, .bipush 10, 2), (86, .imul, 1), (87, .iload_n 1, 1), (88, .iadd, 1), (89, .iload_n 3, 1), (90, .iastore, 1), (91, .iload 4, 2), (93, .ireturn, 1)] = true := by decide +kernel
theorem dX11_flight_74 : decode cX11_flight 74 = .ok (.iload_n 3, 1) := dk_at bX11_flight_74 0 rfl
theorem dX11_flight_75 : decode cX11_flight 75 = .ok (.iastore, 1) := dk_at bX11_flight_74 1 rfl
theorem dX11_flight_76 : decode cX11_flight 76 = .ok (.aload_n 0, 1) := dk_at bX11_flight_74 2 rfl
theorem dX11_flight_77 : decode cX11_flight 77 = .ok (.getfield 42, 3) := dk_at bX11_flight_74 3 rfl
theorem dX11_flight_80 : decode cX11_flight 80 = .ok (.getfield 212, 3) := dk_at bX11_flight_74 4 rfl
theorem dX11_flight_83 : decode cX11_flight 83 = .ok (.iload_n 2, 1) := dk_at bX11_flight_74 5 rfl
theorem dX11_flight_84 : decode cX11_flight 84 = .ok (.bipush 10, 2) := dk_at bX11_flight_74 6 rfl
theorem dX11_flight_86 : decode cX11_flight 86 = .ok (.imul, 1) := dk_at bX11_flight_74 7 rfl
theorem dX11_flight_87 : decode cX11_flight 87 = .ok (.iload_n 1, 1) := dk_at bX11_flight_74 8 rfl
theorem dX11_flight_88 : decode cX11_flight 88 = .ok (.iadd, 1) := dk_at bX11_flight_74 9 rfl
theorem dX11_flight_89 : decode cX11_flight 89 = .ok (.iload_n 3, 1) := dk_at bX11_flight_74 10 rfl
theorem dX11_flight_90 : decode cX11_flight 90 = .ok (.iastore, 1) := dk_at bX11_flight_74 11 rfl
theorem dX11_flight_91 : decode cX11_flight 91 = .ok (.iload 4, 2) := dk_at bX11_flight_74 12 rfl
theorem dX11_flight_93 : decode cX11_flight 93 = .ok (.ireturn, 1) := dk_at bX11_flight_74 13 rfl
set_option maxRecDepth 20000 in
theorem ggX11_plan_X5_make : GoodIn wsX11_plan wsX5_make := goodIn_r _ [8, 9, 10, 11, 12, 13, 14, 15, 16, 17, 18, 19, 20, 21, 22, 23, 24, 25, 26, 27, 28, 29, 30, 31, 32, 33, 34, 35, 36, 37, 38, 39, 40, 41, 42, 43, 44, 45, 46, 47, 48, 49, 50, 51, 52, 53, 54, 55, 56, 57, 58, 59, 60, 61, 62, 63, 64, 65, 66, 67, 68, 69, 70, 71, 72, 73, 7, 74, 75, 76, 77, 78, 79, 80, 81, 82, 83, 84, 85, 86, 87, 88, 89, 90, 91, 92, 93, 94, 95, 96, 97, 98, 99, 100, 101, 102, 103, 104, 105, 106, 107, 108, 109, 110, 111, 112, 122, 123, 124, 125, 126, 127, 128, 129, 130, 131, 132, 133, 134, 135, 136, 137, 138, 139, 140, 141, 142, 143] rfl (by decide +kernel)
set_option maxRecDepth 20000 in
theorem gX11_plan_X5_make : GoodIn wsX11_plan (wsV RX11 215 RX5 yX5_make wsX5_make) := goodIn_app (goodIn_r _ [4, 5, 6, 7] rfl (by decide +kernel)) ggX11_plan_X5_make
theorem bX11_plan_0 : dk cX11_plan [(0, .aload_n 0, 1), (1, .getfield 51, 3), (4, .getfield 198, 3), (7, .ifCond .ne 10, 3), (10, .aload_n 0, 1), (11, .getfield 51, 3), (14, .invokevirtual 215, 3), (17, .aload_n 0, 1), (18, .getfield 51, 3), (21, .getfield 218, 3), (24, .ireturn, 1)] = true := by decide +kernel
theorem dX11_plan_0 : decode cX11_plan 0 = .ok (.aload_n 0, 1) := dk_at bX11_plan_0 0 rfl
theorem dX11_plan_1 : decode cX11_plan 1 = .ok (.getfield 51, 3) := dk_at bX11_plan_0 1 rfl
theorem dX11_plan_4 : decode cX11_plan 4 = .ok (.getfield 198, 3) := dk_at bX11_plan_0 2 rfl
theorem dX11_plan_7 : decode cX11_plan 7 = .ok (.ifCond .ne 10, 3) := dk_at bX11_plan_0 3 rfl
theorem dX11_plan_10 : decode cX11_plan 10 = .ok (.aload_n 0, 1) := dk_at bX11_plan_0 4 rfl
theorem dX11_plan_11 : decode cX11_plan 11 = .ok (.getfield 51, 3) := dk_at bX11_plan_0 5 rfl
theorem dX11_plan_14 : decode cX11_plan 14 = .ok (.invokevirtual 215, 3) := dk_at bX11_plan_0 6 rfl
theorem dX11_plan_17 : decode cX11_plan 17 = .ok (.aload_n 0, 1) := dk_at bX11_plan_0 7 rfl
theorem dX11_plan_18 : decode cX11_plan 18 = .ok (.getfield 51, 3) := dk_at bX11_plan_0 8 rfl
theorem dX11_plan_21 : decode cX11_plan 21 = .ok (.getfield 218, 3) := dk_at bX11_plan_0 9 rfl
theorem dX11_plan_24 : decode cX11_plan 24 = .ok (.ireturn, 1) := dk_at bX11_plan_0 10 rfl
set_option maxRecDepth 20000 in
theorem ggX11_planned_X11_within : GoodIn wsX11_planned wsX11_within := goodIn_r _ [11] rfl (by decide +kernel)
set_option maxRecDepth 20000 in
theorem gX11_planned_X11_within : GoodIn wsX11_planned (va_wsS RX11 80 yX11_within wsX11_within) := goodIn_app (goodIn_r _ [8, 9, 10] rfl (by decide +kernel)) ggX11_planned_X11_within
theorem bX11_planned_0 : dk cX11_planned [(0, .aload_n 0, 1), (1, .getfield 51, 3), (4, .getfield 198, 3), (7, .ifCond .ne 6, 3), (10, .bipush (-9), 2), (12, .ireturn, 1), (13, .iload_n 1, 1), (14, .ifCond .ne 11, 3), (17, .aload_n 0, 1), (18, .getfield 51, 3), (21, .getfield 221, 3), (24, .ireturn, 1), (25, .iload_n 1, 1), (26, .bipush 10, 2), (28, .bipush 10, 2), (30, .aload_n 0, 1), (31, .getfield 42, 3), (34, .getfield 197, 3), (37, .iadd, 1), (38, .iconst 1, 1), (39, .isub, 1), (40, .invokestatic 80, 3), (43, .ifCond .eq 16, 3), (46, .aload_n 0, 1), (47, .getfield 51, 3), (50, .getfield 224, 3), (53, .iload_n 1, 1), (54, .bipush 10, 2), (56, .isub, 1), (57, .iaload, 1), (58, .ireturn, 1), (59, .iload_n 1, 1), (60, .bipush 20, 2), (62, .bipush 20, 2), (64, .aload_n 0, 1), (65, .getfield 42, 3), (68, .getfield 197, 3), (71, .iadd, 1), (72, .iconst 1, 1), (73, .isub, 1)] = true := by decide +kernel
theorem dX11_planned_0 : decode cX11_planned 0 = .ok (.aload_n 0, 1) := dk_at bX11_planned_0 0 rfl
theorem dX11_planned_1 : decode cX11_planned 1 = .ok (.getfield 51, 3) := dk_at bX11_planned_0 1 rfl
theorem dX11_planned_4 : decode cX11_planned 4 = .ok (.getfield 198, 3) := dk_at bX11_planned_0 2 rfl
theorem dX11_planned_7 : decode cX11_planned 7 = .ok (.ifCond .ne 6, 3) := dk_at bX11_planned_0 3 rfl
theorem dX11_planned_10 : decode cX11_planned 10 = .ok (.bipush (-9), 2) := dk_at bX11_planned_0 4 rfl
theorem dX11_planned_12 : decode cX11_planned 12 = .ok (.ireturn, 1) := dk_at bX11_planned_0 5 rfl
theorem dX11_planned_13 : decode cX11_planned 13 = .ok (.iload_n 1, 1) := dk_at bX11_planned_0 6 rfl
theorem dX11_planned_14 : decode cX11_planned 14 = .ok (.ifCond .ne 11, 3) := dk_at bX11_planned_0 7 rfl
theorem dX11_planned_17 : decode cX11_planned 17 = .ok (.aload_n 0, 1) := dk_at bX11_planned_0 8 rfl
theorem dX11_planned_18 : decode cX11_planned 18 = .ok (.getfield 51, 3) := dk_at bX11_planned_0 9 rfl
theorem dX11_planned_21 : decode cX11_planned 21 = .ok (.getfield 221, 3) := dk_at bX11_planned_0 10 rfl
theorem dX11_planned_24 : decode cX11_planned 24 = .ok (.ireturn, 1) := dk_at bX11_planned_0 11 rfl
theorem dX11_planned_25 : decode cX11_planned 25 = .ok (.iload_n 1, 1) := dk_at bX11_planned_0 12 rfl
theorem dX11_planned_26 : decode cX11_planned 26 = .ok (.bipush 10, 2) := dk_at bX11_planned_0 13 rfl
theorem dX11_planned_28 : decode cX11_planned 28 = .ok (.bipush 10, 2) := dk_at bX11_planned_0 14 rfl
theorem dX11_planned_30 : decode cX11_planned 30 = .ok (.aload_n 0, 1) := dk_at bX11_planned_0 15 rfl
theorem dX11_planned_31 : decode cX11_planned 31 = .ok (.getfield 42, 3) := dk_at bX11_planned_0 16 rfl
theorem dX11_planned_34 : decode cX11_planned 34 = .ok (.getfield 197, 3) := dk_at bX11_planned_0 17 rfl
theorem dX11_planned_37 : decode cX11_planned 37 = .ok (.iadd, 1) := dk_at bX11_planned_0 18 rfl
theorem dX11_planned_38 : decode cX11_planned 38 = .ok (.iconst 1, 1) := dk_at bX11_planned_0 19 rfl
theorem dX11_planned_39 : decode cX11_planned 39 = .ok (.isub, 1) := dk_at bX11_planned_0 20 rfl
theorem dX11_planned_40 : decode cX11_planned 40 = .ok (.invokestatic 80, 3) := dk_at bX11_planned_0 21 rfl
theorem dX11_planned_43 : decode cX11_planned 43 = .ok (.ifCond .eq 16, 3) := dk_at bX11_planned_0 22 rfl
theorem dX11_planned_46 : decode cX11_planned 46 = .ok (.aload_n 0, 1) := dk_at bX11_planned_0 23 rfl
theorem dX11_planned_47 : decode cX11_planned 47 = .ok (.getfield 51, 3) := dk_at bX11_planned_0 24 rfl
theorem dX11_planned_50 : decode cX11_planned 50 = .ok (.getfield 224, 3) := dk_at bX11_planned_0 25 rfl
theorem dX11_planned_53 : decode cX11_planned 53 = .ok (.iload_n 1, 1) := dk_at bX11_planned_0 26 rfl
theorem dX11_planned_54 : decode cX11_planned 54 = .ok (.bipush 10, 2) := dk_at bX11_planned_0 27 rfl
theorem dX11_planned_56 : decode cX11_planned 56 = .ok (.isub, 1) := dk_at bX11_planned_0 28 rfl
theorem dX11_planned_57 : decode cX11_planned 57 = .ok (.iaload, 1) := dk_at bX11_planned_0 29 rfl
theorem dX11_planned_58 : decode cX11_planned 58 = .ok (.ireturn, 1) := dk_at bX11_planned_0 30 rfl
theorem dX11_planned_59 : decode cX11_planned 59 = .ok (.iload_n 1, 1) := dk_at bX11_planned_0 31 rfl
theorem dX11_planned_60 : decode cX11_planned 60 = .ok (.bipush 20, 2) := dk_at bX11_planned_0 32 rfl
theorem dX11_planned_62 : decode cX11_planned 62 = .ok (.bipush 20, 2) := dk_at bX11_planned_0 33 rfl
theorem dX11_planned_64 : decode cX11_planned 64 = .ok (.aload_n 0, 1) := dk_at bX11_planned_0 34 rfl
theorem dX11_planned_65 : decode cX11_planned 65 = .ok (.getfield 42, 3) := dk_at bX11_planned_0 35 rfl
theorem dX11_planned_68 : decode cX11_planned 68 = .ok (.getfield 197, 3) := dk_at bX11_planned_0 36 rfl
theorem dX11_planned_71 : decode cX11_planned 71 = .ok (.iadd, 1) := dk_at bX11_planned_0 37 rfl
theorem dX11_planned_72 : decode cX11_planned 72 = .ok (.iconst 1, 1) := dk_at bX11_planned_0 38 rfl
theorem dX11_planned_73 : decode cX11_planned 73 = .ok (.isub, 1) := dk_at bX11_planned_0 39 rfl
theorem bX11_planned_74 : dk cX11_planned [(74, .invokestatic 80, 3), (77, .ifCond .eq 16, 3), (80, .aload_n 0, 1), (81, .getfield 51, 3), (84, .getfield 227, 3), (87, .iload_n 1, 1), (88, .bipush 20, 2), (90, .isub, 1), (91, .iaload, 1), (92, .ireturn, 1), (93, .bipush (-9), 2), (95, .ireturn, 1)] = true := by decide +kernel
theorem dX11_planned_74 : decode cX11_planned 74 = .ok (.invokestatic 80, 3) := dk_at bX11_planned_74 0 rfl
theorem dX11_planned_77 : decode cX11_planned 77 = .ok (.ifCond .eq 16, 3) := dk_at bX11_planned_74 1 rfl
theorem dX11_planned_80 : decode cX11_planned 80 = .ok (.aload_n 0, 1) := dk_at bX11_planned_74 2 rfl
theorem dX11_planned_81 : decode cX11_planned 81 = .ok (.getfield 51, 3) := dk_at bX11_planned_74 3 rfl
theorem dX11_planned_84 : decode cX11_planned 84 = .ok (.getfield 227, 3) := dk_at bX11_planned_74 4 rfl
theorem dX11_planned_87 : decode cX11_planned 87 = .ok (.iload_n 1, 1) := dk_at bX11_planned_74 5 rfl
theorem dX11_planned_88 : decode cX11_planned 88 = .ok (.bipush 20, 2) := dk_at bX11_planned_74 6 rfl
theorem dX11_planned_90 : decode cX11_planned 90 = .ok (.isub, 1) := dk_at bX11_planned_74 7 rfl
theorem dX11_planned_91 : decode cX11_planned 91 = .ok (.iaload, 1) := dk_at bX11_planned_74 8 rfl
theorem dX11_planned_92 : decode cX11_planned 92 = .ok (.ireturn, 1) := dk_at bX11_planned_74 9 rfl
theorem dX11_planned_93 : decode cX11_planned 93 = .ok (.bipush (-9), 2) := dk_at bX11_planned_74 10 rfl
theorem dX11_planned_95 : decode cX11_planned 95 = .ok (.ireturn, 1) := dk_at bX11_planned_74 11 rfl
set_option maxRecDepth 20000 in
theorem ggX11_count_X11_within : GoodIn wsX11_count wsX11_within := goodIn_r _ [16] rfl (by decide +kernel)
set_option maxRecDepth 20000 in
theorem gX11_count_X11_within : GoodIn wsX11_count (va_wsS RX11 80 yX11_within wsX11_within) := goodIn_app (goodIn_r _ [13, 14, 15] rfl (by decide +kernel)) ggX11_count_X11_within
set_option maxRecDepth 20000 in
theorem ggX11_count_X2_crewsTold : GoodIn wsX11_count wsX2_crewsTold := goodIn_r _ [21, 22, 50, 51, 52, 53, 54, 55, 56, 57, 58] rfl (by decide +kernel)
set_option maxRecDepth 20000 in
theorem gX11_count_X2_crewsTold : GoodIn wsX11_count (wsV RX11 233 RX2 yX2_crewsTold wsX2_crewsTold) := goodIn_app (goodIn_r _ [17, 18, 19, 20] rfl (by decide +kernel)) ggX11_count_X2_crewsTold
theorem bX11_count_0 : dk cX11_count [(0, .iload_n 1, 1), (1, .bipush 10, 2), (3, .bipush 15, 2), (5, .invokestatic 80, 3), (8, .ifCond .eq 19, 3), (11, .aload_n 0, 1), (12, .getfield 34, 3), (15, .iload_n 1, 1), (16, .bipush 10, 2), (18, .isub, 1), (19, .aaload, 1), (20, .getfield 118, 3), (23, .getfield 121, 3), (26, .ireturn, 1), (27, .iload_n 1, 1), (28, .bipush 20, 2), (30, .bipush 25, 2), (32, .invokestatic 80, 3), (35, .ifCond .eq 19, 3), (38, .aload_n 0, 1), (39, .getfield 34, 3), (42, .iload_n 1, 1), (43, .bipush 20, 2), (45, .isub, 1), (46, .aaload, 1), (47, .getfield 128, 3), (50, .getfield 230, 3), (53, .ireturn, 1), (54, .iload_n 1, 1), (55, .bipush 30, 2), (57, .bipush 39, 2), (59, .invokestatic 80, 3), (62, .ifCond .eq 16, 3), (65, .aload_n 0, 1), (66, .getfield 28, 3), (69, .getfield 96, 3), (72, .iload_n 1, 1), (73, .bipush 30, 2), (75, .isub, 1), (76, .iaload, 1)] = true := by decide +kernel
theorem dX11_count_0 : decode cX11_count 0 = .ok (.iload_n 1, 1) := dk_at bX11_count_0 0 rfl
theorem dX11_count_1 : decode cX11_count 1 = .ok (.bipush 10, 2) := dk_at bX11_count_0 1 rfl
theorem dX11_count_3 : decode cX11_count 3 = .ok (.bipush 15, 2) := dk_at bX11_count_0 2 rfl
theorem dX11_count_5 : decode cX11_count 5 = .ok (.invokestatic 80, 3) := dk_at bX11_count_0 3 rfl
theorem dX11_count_8 : decode cX11_count 8 = .ok (.ifCond .eq 19, 3) := dk_at bX11_count_0 4 rfl
theorem dX11_count_11 : decode cX11_count 11 = .ok (.aload_n 0, 1) := dk_at bX11_count_0 5 rfl
theorem dX11_count_12 : decode cX11_count 12 = .ok (.getfield 34, 3) := dk_at bX11_count_0 6 rfl
theorem dX11_count_15 : decode cX11_count 15 = .ok (.iload_n 1, 1) := dk_at bX11_count_0 7 rfl
theorem dX11_count_16 : decode cX11_count 16 = .ok (.bipush 10, 2) := dk_at bX11_count_0 8 rfl
theorem dX11_count_18 : decode cX11_count 18 = .ok (.isub, 1) := dk_at bX11_count_0 9 rfl
theorem dX11_count_19 : decode cX11_count 19 = .ok (.aaload, 1) := dk_at bX11_count_0 10 rfl
theorem dX11_count_20 : decode cX11_count 20 = .ok (.getfield 118, 3) := dk_at bX11_count_0 11 rfl
theorem dX11_count_23 : decode cX11_count 23 = .ok (.getfield 121, 3) := dk_at bX11_count_0 12 rfl
theorem dX11_count_26 : decode cX11_count 26 = .ok (.ireturn, 1) := dk_at bX11_count_0 13 rfl
theorem dX11_count_27 : decode cX11_count 27 = .ok (.iload_n 1, 1) := dk_at bX11_count_0 14 rfl
theorem dX11_count_28 : decode cX11_count 28 = .ok (.bipush 20, 2) := dk_at bX11_count_0 15 rfl
theorem dX11_count_30 : decode cX11_count 30 = .ok (.bipush 25, 2) := dk_at bX11_count_0 16 rfl
theorem dX11_count_32 : decode cX11_count 32 = .ok (.invokestatic 80, 3) := dk_at bX11_count_0 17 rfl
theorem dX11_count_35 : decode cX11_count 35 = .ok (.ifCond .eq 19, 3) := dk_at bX11_count_0 18 rfl
theorem dX11_count_38 : decode cX11_count 38 = .ok (.aload_n 0, 1) := dk_at bX11_count_0 19 rfl
theorem dX11_count_39 : decode cX11_count 39 = .ok (.getfield 34, 3) := dk_at bX11_count_0 20 rfl
theorem dX11_count_42 : decode cX11_count 42 = .ok (.iload_n 1, 1) := dk_at bX11_count_0 21 rfl
theorem dX11_count_43 : decode cX11_count 43 = .ok (.bipush 20, 2) := dk_at bX11_count_0 22 rfl
theorem dX11_count_45 : decode cX11_count 45 = .ok (.isub, 1) := dk_at bX11_count_0 23 rfl
theorem dX11_count_46 : decode cX11_count 46 = .ok (.aaload, 1) := dk_at bX11_count_0 24 rfl
theorem dX11_count_47 : decode cX11_count 47 = .ok (.getfield 128, 3) := dk_at bX11_count_0 25 rfl
theorem dX11_count_50 : decode cX11_count 50 = .ok (.getfield 230, 3) := dk_at bX11_count_0 26 rfl
theorem dX11_count_53 : decode cX11_count 53 = .ok (.ireturn, 1) := dk_at bX11_count_0 27 rfl
theorem dX11_count_54 : decode cX11_count 54 = .ok (.iload_n 1, 1) := dk_at bX11_count_0 28 rfl
theorem dX11_count_55 : decode cX11_count 55 = .ok (.bipush 30, 2) := dk_at bX11_count_0 29 rfl
theorem dX11_count_57 : decode cX11_count 57 = .ok (.bipush 39, 2) := dk_at bX11_count_0 30 rfl
theorem dX11_count_59 : decode cX11_count 59 = .ok (.invokestatic 80, 3) := dk_at bX11_count_0 31 rfl
theorem dX11_count_62 : decode cX11_count 62 = .ok (.ifCond .eq 16, 3) := dk_at bX11_count_0 32 rfl
theorem dX11_count_65 : decode cX11_count 65 = .ok (.aload_n 0, 1) := dk_at bX11_count_0 33 rfl
theorem dX11_count_66 : decode cX11_count 66 = .ok (.getfield 28, 3) := dk_at bX11_count_0 34 rfl
theorem dX11_count_69 : decode cX11_count 69 = .ok (.getfield 96, 3) := dk_at bX11_count_0 35 rfl
theorem dX11_count_72 : decode cX11_count 72 = .ok (.iload_n 1, 1) := dk_at bX11_count_0 36 rfl
theorem dX11_count_73 : decode cX11_count 73 = .ok (.bipush 30, 2) := dk_at bX11_count_0 37 rfl
theorem dX11_count_75 : decode cX11_count 75 = .ok (.isub, 1) := dk_at bX11_count_0 38 rfl
theorem dX11_count_76 : decode cX11_count 76 = .ok (.iaload, 1) := dk_at bX11_count_0 39 rfl
theorem bX11_count_77 : dk cX11_count [(77, .ireturn, 1), (78, .iload_n 1, 1), (79, .tableswitch 58 0 3 #[29, 34, 42, 50], 29), (108, .aload_n 0, 1), (109, .getfield 69, 3), (112, .ireturn, 1), (113, .aload_n 0, 1), (114, .getfield 42, 3), (117, .getfield 197, 3), (120, .ireturn, 1), (121, .aload_n 0, 1), (122, .getfield 42, 3), (125, .invokevirtual 233, 3), (128, .ireturn, 1), (129, .aload_n 0, 1), (130, .getfield 10, 3), (133, .getfield 73, 3), (136, .ireturn, 1), (137, .iconst (-1), 1), (138, .ireturn, 1)] = true := by decide +kernel
theorem dX11_count_77 : decode cX11_count 77 = .ok (.ireturn, 1) := dk_at bX11_count_77 0 rfl
theorem dX11_count_78 : decode cX11_count 78 = .ok (.iload_n 1, 1) := dk_at bX11_count_77 1 rfl
theorem dX11_count_79 : decode cX11_count 79 = .ok (.tableswitch 58 0 3 #[29, 34, 42, 50], 29) := dk_at bX11_count_77 2 rfl
theorem dX11_count_108 : decode cX11_count 108 = .ok (.aload_n 0, 1) := dk_at bX11_count_77 3 rfl
theorem dX11_count_109 : decode cX11_count 109 = .ok (.getfield 69, 3) := dk_at bX11_count_77 4 rfl
theorem dX11_count_112 : decode cX11_count 112 = .ok (.ireturn, 1) := dk_at bX11_count_77 5 rfl
theorem dX11_count_113 : decode cX11_count 113 = .ok (.aload_n 0, 1) := dk_at bX11_count_77 6 rfl
theorem dX11_count_114 : decode cX11_count 114 = .ok (.getfield 42, 3) := dk_at bX11_count_77 7 rfl
theorem dX11_count_117 : decode cX11_count 117 = .ok (.getfield 197, 3) := dk_at bX11_count_77 8 rfl
theorem dX11_count_120 : decode cX11_count 120 = .ok (.ireturn, 1) := dk_at bX11_count_77 9 rfl
theorem dX11_count_121 : decode cX11_count 121 = .ok (.aload_n 0, 1) := dk_at bX11_count_77 10 rfl
theorem dX11_count_122 : decode cX11_count 122 = .ok (.getfield 42, 3) := dk_at bX11_count_77 11 rfl
theorem dX11_count_125 : decode cX11_count 125 = .ok (.invokevirtual 233, 3) := dk_at bX11_count_77 12 rfl
theorem dX11_count_128 : decode cX11_count 128 = .ok (.ireturn, 1) := dk_at bX11_count_77 13 rfl
theorem dX11_count_129 : decode cX11_count 129 = .ok (.aload_n 0, 1) := dk_at bX11_count_77 14 rfl
theorem dX11_count_130 : decode cX11_count 130 = .ok (.getfield 10, 3) := dk_at bX11_count_77 15 rfl
theorem dX11_count_133 : decode cX11_count 133 = .ok (.getfield 73, 3) := dk_at bX11_count_77 16 rfl
theorem dX11_count_136 : decode cX11_count 136 = .ok (.ireturn, 1) := dk_at bX11_count_77 17 rfl
theorem dX11_count_137 : decode cX11_count 137 = .ok (.iconst (-1), 1) := dk_at bX11_count_77 18 rfl
theorem dX11_count_138 : decode cX11_count 138 = .ok (.ireturn, 1) := dk_at bX11_count_77 19 rfl
theorem bX11_within_0 : dk cX11_within [(0, .iload_n 0, 1), (1, .iload_n 1, 1), (2, .if_icmp .lt 12, 3), (5, .iload_n 0, 1), (6, .iload_n 2, 1), (7, .if_icmp .gt 7, 3), (10, .iconst 1, 1), (11, .goto 4, 3), (14, .iconst 0, 1), (15, .ireturn, 1)] = true := by decide +kernel
theorem dX11_within_0 : decode cX11_within 0 = .ok (.iload_n 0, 1) := dk_at bX11_within_0 0 rfl
theorem dX11_within_1 : decode cX11_within 1 = .ok (.iload_n 1, 1) := dk_at bX11_within_0 1 rfl
theorem dX11_within_2 : decode cX11_within 2 = .ok (.if_icmp .lt 12, 3) := dk_at bX11_within_0 2 rfl
theorem dX11_within_5 : decode cX11_within 5 = .ok (.iload_n 0, 1) := dk_at bX11_within_0 3 rfl
theorem dX11_within_6 : decode cX11_within 6 = .ok (.iload_n 2, 1) := dk_at bX11_within_0 4 rfl
theorem dX11_within_7 : decode cX11_within 7 = .ok (.if_icmp .gt 7, 3) := dk_at bX11_within_0 5 rfl
theorem dX11_within_10 : decode cX11_within 10 = .ok (.iconst 1, 1) := dk_at bX11_within_0 6 rfl
theorem dX11_within_11 : decode cX11_within 11 = .ok (.goto 4, 3) := dk_at bX11_within_0 7 rfl
theorem dX11_within_14 : decode cX11_within 14 = .ok (.iconst 0, 1) := dk_at bX11_within_0 8 rfl
theorem dX11_within_15 : decode cX11_within 15 = .ok (.ireturn, 1) := dk_at bX11_within_0 9 rfl
theorem bX11_below_0 : dk cX11_below [(0, .iload_n 0, 1), (1, .ifCond .lt 12, 3), (4, .iload_n 0, 1), (5, .iload_n 1, 1), (6, .if_icmp .ge 7, 3), (9, .iconst 1, 1), (10, .goto 4, 3), (13, .iconst 0, 1), (14, .ireturn, 1)] = true := by decide +kernel
theorem dX11_below_0 : decode cX11_below 0 = .ok (.iload_n 0, 1) := dk_at bX11_below_0 0 rfl
theorem dX11_below_1 : decode cX11_below 1 = .ok (.ifCond .lt 12, 3) := dk_at bX11_below_0 1 rfl
theorem dX11_below_4 : decode cX11_below 4 = .ok (.iload_n 0, 1) := dk_at bX11_below_0 2 rfl
theorem dX11_below_5 : decode cX11_below 5 = .ok (.iload_n 1, 1) := dk_at bX11_below_0 3 rfl
theorem dX11_below_6 : decode cX11_below 6 = .ok (.if_icmp .ge 7, 3) := dk_at bX11_below_0 4 rfl
theorem dX11_below_9 : decode cX11_below 9 = .ok (.iconst 1, 1) := dk_at bX11_below_0 5 rfl
theorem dX11_below_10 : decode cX11_below 10 = .ok (.goto 4, 3) := dk_at bX11_below_0 6 rfl
theorem dX11_below_13 : decode cX11_below 13 = .ok (.iconst 0, 1) := dk_at bX11_below_0 7 rfl
theorem dX11_below_14 : decode cX11_below 14 = .ok (.ireturn, 1) := dk_at bX11_below_0 8 rfl
set_option maxRecDepth 20000 in
theorem ggX11_isPlace_X11_columnOf : GoodIn wsX11_isPlace wsX11_columnOf := goodIn_r _ [4] rfl (by decide +kernel)
set_option maxRecDepth 20000 in
theorem gX11_isPlace_X11_columnOf : GoodIn wsX11_isPlace (va_wsS RX11 236 yX11_columnOf wsX11_columnOf) := goodIn_app (goodIn_r _ [1, 2, 3] rfl (by decide +kernel)) ggX11_isPlace_X11_columnOf
set_option maxRecDepth 20000 in
theorem ggX11_isPlace_X11_rowOf : GoodIn wsX11_isPlace wsX11_rowOf := goodIn_r _ [7] rfl (by decide +kernel)
set_option maxRecDepth 20000 in
theorem gX11_isPlace_X11_rowOf : GoodIn wsX11_isPlace (va_wsS RX11 239 yX11_rowOf wsX11_rowOf) := goodIn_app (goodIn_r _ [5, 6, 3] rfl (by decide +kernel)) ggX11_isPlace_X11_rowOf
theorem bX11_isPlace_0 : dk cX11_isPlace [(0, .iload_n 0, 1), (1, .ifCond .lt 25, 3), (4, .iload_n 0, 1), (5, .invokestatic 236, 3), (8, .bipush 30, 2), (10, .if_icmp .ge 16, 3), (13, .iload_n 0, 1), (14, .invokestatic 239, 3), (17, .bipush 20, 2), (19, .if_icmp .ge 7, 3), (22, .iconst 1, 1), (23, .goto 4, 3), (26, .iconst 0, 1), (27, .ireturn, 1)] = true := by decide +kernel
theorem dX11_isPlace_0 : decode cX11_isPlace 0 = .ok (.iload_n 0, 1) := dk_at bX11_isPlace_0 0 rfl
theorem dX11_isPlace_1 : decode cX11_isPlace 1 = .ok (.ifCond .lt 25, 3) := dk_at bX11_isPlace_0 1 rfl
theorem dX11_isPlace_4 : decode cX11_isPlace 4 = .ok (.iload_n 0, 1) := dk_at bX11_isPlace_0 2 rfl
theorem dX11_isPlace_5 : decode cX11_isPlace 5 = .ok (.invokestatic 236, 3) := dk_at bX11_isPlace_0 3 rfl
theorem dX11_isPlace_8 : decode cX11_isPlace 8 = .ok (.bipush 30, 2) := dk_at bX11_isPlace_0 4 rfl
theorem dX11_isPlace_10 : decode cX11_isPlace 10 = .ok (.if_icmp .ge 16, 3) := dk_at bX11_isPlace_0 5 rfl
theorem dX11_isPlace_13 : decode cX11_isPlace 13 = .ok (.iload_n 0, 1) := dk_at bX11_isPlace_0 6 rfl
theorem dX11_isPlace_14 : decode cX11_isPlace 14 = .ok (.invokestatic 239, 3) := dk_at bX11_isPlace_0 7 rfl
theorem dX11_isPlace_17 : decode cX11_isPlace 17 = .ok (.bipush 20, 2) := dk_at bX11_isPlace_0 8 rfl
theorem dX11_isPlace_19 : decode cX11_isPlace 19 = .ok (.if_icmp .ge 7, 3) := dk_at bX11_isPlace_0 9 rfl
theorem dX11_isPlace_22 : decode cX11_isPlace 22 = .ok (.iconst 1, 1) := dk_at bX11_isPlace_0 10 rfl
theorem dX11_isPlace_23 : decode cX11_isPlace 23 = .ok (.goto 4, 3) := dk_at bX11_isPlace_0 11 rfl
theorem dX11_isPlace_26 : decode cX11_isPlace 26 = .ok (.iconst 0, 1) := dk_at bX11_isPlace_0 12 rfl
theorem dX11_isPlace_27 : decode cX11_isPlace 27 = .ok (.ireturn, 1) := dk_at bX11_isPlace_0 13 rfl
theorem bX11_columnOf_0 : dk cX11_columnOf [(0, .iload_n 0, 1), (1, .bipush 100, 2), (3, .idiv, 1), (4, .ireturn, 1)] = true := by decide +kernel
theorem dX11_columnOf_0 : decode cX11_columnOf 0 = .ok (.iload_n 0, 1) := dk_at bX11_columnOf_0 0 rfl
theorem dX11_columnOf_1 : decode cX11_columnOf 1 = .ok (.bipush 100, 2) := dk_at bX11_columnOf_0 1 rfl
theorem dX11_columnOf_3 : decode cX11_columnOf 3 = .ok (.idiv, 1) := dk_at bX11_columnOf_0 2 rfl
theorem dX11_columnOf_4 : decode cX11_columnOf 4 = .ok (.ireturn, 1) := dk_at bX11_columnOf_0 3 rfl
theorem bX11_rowOf_0 : dk cX11_rowOf [(0, .iload_n 0, 1), (1, .bipush 100, 2), (3, .irem, 1), (4, .ireturn, 1)] = true := by decide +kernel
theorem dX11_rowOf_0 : decode cX11_rowOf 0 = .ok (.iload_n 0, 1) := dk_at bX11_rowOf_0 0 rfl
theorem dX11_rowOf_1 : decode cX11_rowOf 1 = .ok (.bipush 100, 2) := dk_at bX11_rowOf_0 1 rfl
theorem dX11_rowOf_3 : decode cX11_rowOf 3 = .ok (.irem, 1) := dk_at bX11_rowOf_0 2 rfl
theorem dX11_rowOf_4 : decode cX11_rowOf 4 = .ok (.ireturn, 1) := dk_at bX11_rowOf_0 3 rfl
theorem bX12_init_0 : dk cX12_init [(0, .aload_n 0, 1), (1, .invokespecial 1, 3), (4, .aload_n 0, 1), (5, .sipush 800, 3), (8, .newarray .byte, 2), (10, .putfield 7, 3), (13, .aload_n 0, 1), (14, .iconst (-1), 1), (15, .putfield 13, 3), (18, .aload_n 0, 1), (19, .sipush 336, 3), (22, .newarray .int, 2), (24, .putfield 17, 3), (27, .aload_n 0, 1), (28, .bipush 7, 2), (30, .newarray .int, 2), (32, .putfield 21, 3), (35, .aload_n 0, 1), (36, .sipush 504, 3), (39, .newarray .int, 2), (41, .putfield 24, 3), (44, .aload_n 0, 1), (45, .bipush 7, 2), (47, .newarray .int, 2), (49, .putfield 27, 3), (52, .aload_n 0, 1), (53, .bipush 7, 2), (55, .newarray .int, 2), (57, .putfield 30, 3), (60, .aload_n 0, 1), (61, .bipush 7, 2), (63, .newarray .int, 2), (65, .putfield 33, 3), (68, .aload_n 0, 1), (69, .sipush 288, 3), (72, .newarray .int, 2), (74, .putfield 36, 3), (77, .aload_n 0, 1), (78, .sipush 288, 3), (81, .newarray .int, 2)] = true := by decide +kernel
theorem dX12_init_0 : decode cX12_init 0 = .ok (.aload_n 0, 1) := dk_at bX12_init_0 0 rfl
theorem dX12_init_1 : decode cX12_init 1 = .ok (.invokespecial 1, 3) := dk_at bX12_init_0 1 rfl
theorem dX12_init_4 : decode cX12_init 4 = .ok (.aload_n 0, 1) := dk_at bX12_init_0 2 rfl
theorem dX12_init_5 : decode cX12_init 5 = .ok (.sipush 800, 3) := dk_at bX12_init_0 3 rfl
theorem dX12_init_8 : decode cX12_init 8 = .ok (.newarray .byte, 2) := dk_at bX12_init_0 4 rfl
theorem dX12_init_10 : decode cX12_init 10 = .ok (.putfield 7, 3) := dk_at bX12_init_0 5 rfl
theorem dX12_init_13 : decode cX12_init 13 = .ok (.aload_n 0, 1) := dk_at bX12_init_0 6 rfl
theorem dX12_init_14 : decode cX12_init 14 = .ok (.iconst (-1), 1) := dk_at bX12_init_0 7 rfl
theorem dX12_init_15 : decode cX12_init 15 = .ok (.putfield 13, 3) := dk_at bX12_init_0 8 rfl
theorem dX12_init_18 : decode cX12_init 18 = .ok (.aload_n 0, 1) := dk_at bX12_init_0 9 rfl
theorem dX12_init_19 : decode cX12_init 19 = .ok (.sipush 336, 3) := dk_at bX12_init_0 10 rfl
theorem dX12_init_22 : decode cX12_init 22 = .ok (.newarray .int, 2) := dk_at bX12_init_0 11 rfl
theorem dX12_init_24 : decode cX12_init 24 = .ok (.putfield 17, 3) := dk_at bX12_init_0 12 rfl
theorem dX12_init_27 : decode cX12_init 27 = .ok (.aload_n 0, 1) := dk_at bX12_init_0 13 rfl
theorem dX12_init_28 : decode cX12_init 28 = .ok (.bipush 7, 2) := dk_at bX12_init_0 14 rfl
theorem dX12_init_30 : decode cX12_init 30 = .ok (.newarray .int, 2) := dk_at bX12_init_0 15 rfl
theorem dX12_init_32 : decode cX12_init 32 = .ok (.putfield 21, 3) := dk_at bX12_init_0 16 rfl
theorem dX12_init_35 : decode cX12_init 35 = .ok (.aload_n 0, 1) := dk_at bX12_init_0 17 rfl
theorem dX12_init_36 : decode cX12_init 36 = .ok (.sipush 504, 3) := dk_at bX12_init_0 18 rfl
theorem dX12_init_39 : decode cX12_init 39 = .ok (.newarray .int, 2) := dk_at bX12_init_0 19 rfl
theorem dX12_init_41 : decode cX12_init 41 = .ok (.putfield 24, 3) := dk_at bX12_init_0 20 rfl
theorem dX12_init_44 : decode cX12_init 44 = .ok (.aload_n 0, 1) := dk_at bX12_init_0 21 rfl
theorem dX12_init_45 : decode cX12_init 45 = .ok (.bipush 7, 2) := dk_at bX12_init_0 22 rfl
theorem dX12_init_47 : decode cX12_init 47 = .ok (.newarray .int, 2) := dk_at bX12_init_0 23 rfl
theorem dX12_init_49 : decode cX12_init 49 = .ok (.putfield 27, 3) := dk_at bX12_init_0 24 rfl
theorem dX12_init_52 : decode cX12_init 52 = .ok (.aload_n 0, 1) := dk_at bX12_init_0 25 rfl
theorem dX12_init_53 : decode cX12_init 53 = .ok (.bipush 7, 2) := dk_at bX12_init_0 26 rfl
theorem dX12_init_55 : decode cX12_init 55 = .ok (.newarray .int, 2) := dk_at bX12_init_0 27 rfl
theorem dX12_init_57 : decode cX12_init 57 = .ok (.putfield 30, 3) := dk_at bX12_init_0 28 rfl
theorem dX12_init_60 : decode cX12_init 60 = .ok (.aload_n 0, 1) := dk_at bX12_init_0 29 rfl
theorem dX12_init_61 : decode cX12_init 61 = .ok (.bipush 7, 2) := dk_at bX12_init_0 30 rfl
theorem dX12_init_63 : decode cX12_init 63 = .ok (.newarray .int, 2) := dk_at bX12_init_0 31 rfl
theorem dX12_init_65 : decode cX12_init 65 = .ok (.putfield 33, 3) := dk_at bX12_init_0 32 rfl
theorem dX12_init_68 : decode cX12_init 68 = .ok (.aload_n 0, 1) := dk_at bX12_init_0 33 rfl
theorem dX12_init_69 : decode cX12_init 69 = .ok (.sipush 288, 3) := dk_at bX12_init_0 34 rfl
theorem dX12_init_72 : decode cX12_init 72 = .ok (.newarray .int, 2) := dk_at bX12_init_0 35 rfl
theorem dX12_init_74 : decode cX12_init 74 = .ok (.putfield 36, 3) := dk_at bX12_init_0 36 rfl
theorem dX12_init_77 : decode cX12_init 77 = .ok (.aload_n 0, 1) := dk_at bX12_init_0 37 rfl
theorem dX12_init_78 : decode cX12_init 78 = .ok (.sipush 288, 3) := dk_at bX12_init_0 38 rfl
theorem dX12_init_81 : decode cX12_init 81 = .ok (.newarray .int, 2) := dk_at bX12_init_0 39 rfl
theorem bX12_init_83 : dk cX12_init [(83, .putfield 39, 3), (86, .aload_n 0, 1), (87, .bipush 10, 2), (89, .newarray .int, 2), (91, .putfield 42, 3), (94, .aload_n 0, 1), (95, .sipush 150, 3), (98, .newarray .int, 2), (100, .putfield 45, 3), (103, .aload_n 0, 1), (104, .bipush 6, 2), (106, .newarray .int, 2), (108, .putfield 48, 3), (111, .aload_n 0, 1), (112, .bipush 24, 2), (114, .newarray .int, 2), (116, .putfield 51, 3), (119, .aload_n 0, 1), (120, .bipush 6, 2), (122, .newarray .boolean, 2), (124, .putfield 54, 3), (127, .aload_n 0, 1), (128, .bipush 6, 2), (130, .newarray .int, 2), (132, .putfield 58, 3), (135, .aload_n 0, 1), (136, .bipush 6, 2), (138, .newarray .int, 2), (140, .putfield 61, 3), (143, .aload_n 0, 1), (144, .bipush 6, 2), (146, .newarray .int, 2), (148, .putfield 64, 3), (151, .aload_n 0, 1), (152, .bipush 6, 2), (154, .newarray .int, 2), (156, .putfield 67, 3), (159, .aload_n 0, 1), (160, .bipush 48, 2), (162, .newarray .int, 2)] = true := by decide +kernel
theorem dX12_init_83 : decode cX12_init 83 = .ok (.putfield 39, 3) := dk_at bX12_init_83 0 rfl
theorem dX12_init_86 : decode cX12_init 86 = .ok (.aload_n 0, 1) := dk_at bX12_init_83 1 rfl
theorem dX12_init_87 : decode cX12_init 87 = .ok (.bipush 10, 2) := dk_at bX12_init_83 2 rfl
theorem dX12_init_89 : decode cX12_init 89 = .ok (.newarray .int, 2) := dk_at bX12_init_83 3 rfl
theorem dX12_init_91 : decode cX12_init 91 = .ok (.putfield 42, 3) := dk_at bX12_init_83 4 rfl
theorem dX12_init_94 : decode cX12_init 94 = .ok (.aload_n 0, 1) := dk_at bX12_init_83 5 rfl
theorem dX12_init_95 : decode cX12_init 95 = .ok (.sipush 150, 3) := dk_at bX12_init_83 6 rfl
theorem dX12_init_98 : decode cX12_init 98 = .ok (.newarray .int, 2) := dk_at bX12_init_83 7 rfl
theorem dX12_init_100 : decode cX12_init 100 = .ok (.putfield 45, 3) := dk_at bX12_init_83 8 rfl
theorem dX12_init_103 : decode cX12_init 103 = .ok (.aload_n 0, 1) := dk_at bX12_init_83 9 rfl
theorem dX12_init_104 : decode cX12_init 104 = .ok (.bipush 6, 2) := dk_at bX12_init_83 10 rfl
theorem dX12_init_106 : decode cX12_init 106 = .ok (.newarray .int, 2) := dk_at bX12_init_83 11 rfl
theorem dX12_init_108 : decode cX12_init 108 = .ok (.putfield 48, 3) := dk_at bX12_init_83 12 rfl
theorem dX12_init_111 : decode cX12_init 111 = .ok (.aload_n 0, 1) := dk_at bX12_init_83 13 rfl
theorem dX12_init_112 : decode cX12_init 112 = .ok (.bipush 24, 2) := dk_at bX12_init_83 14 rfl
theorem dX12_init_114 : decode cX12_init 114 = .ok (.newarray .int, 2) := dk_at bX12_init_83 15 rfl
theorem dX12_init_116 : decode cX12_init 116 = .ok (.putfield 51, 3) := dk_at bX12_init_83 16 rfl
theorem dX12_init_119 : decode cX12_init 119 = .ok (.aload_n 0, 1) := dk_at bX12_init_83 17 rfl
theorem dX12_init_120 : decode cX12_init 120 = .ok (.bipush 6, 2) := dk_at bX12_init_83 18 rfl
theorem dX12_init_122 : decode cX12_init 122 = .ok (.newarray .boolean, 2) := dk_at bX12_init_83 19 rfl
theorem dX12_init_124 : decode cX12_init 124 = .ok (.putfield 54, 3) := dk_at bX12_init_83 20 rfl
theorem dX12_init_127 : decode cX12_init 127 = .ok (.aload_n 0, 1) := dk_at bX12_init_83 21 rfl
theorem dX12_init_128 : decode cX12_init 128 = .ok (.bipush 6, 2) := dk_at bX12_init_83 22 rfl
theorem dX12_init_130 : decode cX12_init 130 = .ok (.newarray .int, 2) := dk_at bX12_init_83 23 rfl
theorem dX12_init_132 : decode cX12_init 132 = .ok (.putfield 58, 3) := dk_at bX12_init_83 24 rfl
theorem dX12_init_135 : decode cX12_init 135 = .ok (.aload_n 0, 1) := dk_at bX12_init_83 25 rfl
theorem dX12_init_136 : decode cX12_init 136 = .ok (.bipush 6, 2) := dk_at bX12_init_83 26 rfl
theorem dX12_init_138 : decode cX12_init 138 = .ok (.newarray .int, 2) := dk_at bX12_init_83 27 rfl
theorem dX12_init_140 : decode cX12_init 140 = .ok (.putfield 61, 3) := dk_at bX12_init_83 28 rfl
theorem dX12_init_143 : decode cX12_init 143 = .ok (.aload_n 0, 1) := dk_at bX12_init_83 29 rfl
theorem dX12_init_144 : decode cX12_init 144 = .ok (.bipush 6, 2) := dk_at bX12_init_83 30 rfl
theorem dX12_init_146 : decode cX12_init 146 = .ok (.newarray .int, 2) := dk_at bX12_init_83 31 rfl
theorem dX12_init_148 : decode cX12_init 148 = .ok (.putfield 64, 3) := dk_at bX12_init_83 32 rfl
theorem dX12_init_151 : decode cX12_init 151 = .ok (.aload_n 0, 1) := dk_at bX12_init_83 33 rfl
theorem dX12_init_152 : decode cX12_init 152 = .ok (.bipush 6, 2) := dk_at bX12_init_83 34 rfl
theorem dX12_init_154 : decode cX12_init 154 = .ok (.newarray .int, 2) := dk_at bX12_init_83 35 rfl
theorem dX12_init_156 : decode cX12_init 156 = .ok (.putfield 67, 3) := dk_at bX12_init_83 36 rfl
theorem dX12_init_159 : decode cX12_init 159 = .ok (.aload_n 0, 1) := dk_at bX12_init_83 37 rfl
theorem dX12_init_160 : decode cX12_init 160 = .ok (.bipush 48, 2) := dk_at bX12_init_83 38 rfl
theorem dX12_init_162 : decode cX12_init 162 = .ok (.newarray .int, 2) := dk_at bX12_init_83 39 rfl
theorem bX12_init_164 : dk cX12_init [(164, .putfield 70, 3), (167, .aload_n 0, 1), (168, .bipush 6, 2), (170, .newarray .int, 2), (172, .putfield 73, 3), (175, .aload_n 0, 1), (176, .bipush 6, 2), (178, .newarray .int, 2), (180, .putfield 76, 3), (183, .aload_n 0, 1), (184, .bipush 6, 2), (186, .newarray .int, 2), (188, .putfield 79, 3), (191, .aload_n 0, 1), (192, .bipush 6, 2), (194, .newarray .int, 2), (196, .putfield 82, 3), (199, .aload_n 0, 1), (200, .bipush 6, 2), (202, .newarray .int, 2), (204, .putfield 85, 3), (207, .aload_n 0, 1), (208, .bipush 6, 2), (210, .newarray .boolean, 2), (212, .putfield 88, 3), (215, .aload_n 0, 1), (216, .bipush 6, 2), (218, .newarray .int, 2), (220, .putfield 91, 3), (223, .aload_n 0, 1), (224, .bipush 6, 2), (226, .newarray .int, 2), (228, .putfield 94, 3), (231, .aload_n 0, 1), (232, .bipush 6, 2), (234, .newarray .int, 2), (236, .putfield 97, 3), (239, .aload_n 0, 1), (240, .bipush 6, 2), (242, .newarray .int, 2)] = true := by decide +kernel
theorem dX12_init_164 : decode cX12_init 164 = .ok (.putfield 70, 3) := dk_at bX12_init_164 0 rfl
theorem dX12_init_167 : decode cX12_init 167 = .ok (.aload_n 0, 1) := dk_at bX12_init_164 1 rfl
theorem dX12_init_168 : decode cX12_init 168 = .ok (.bipush 6, 2) := dk_at bX12_init_164 2 rfl
theorem dX12_init_170 : decode cX12_init 170 = .ok (.newarray .int, 2) := dk_at bX12_init_164 3 rfl
theorem dX12_init_172 : decode cX12_init 172 = .ok (.putfield 73, 3) := dk_at bX12_init_164 4 rfl
theorem dX12_init_175 : decode cX12_init 175 = .ok (.aload_n 0, 1) := dk_at bX12_init_164 5 rfl
theorem dX12_init_176 : decode cX12_init 176 = .ok (.bipush 6, 2) := dk_at bX12_init_164 6 rfl
theorem dX12_init_178 : decode cX12_init 178 = .ok (.newarray .int, 2) := dk_at bX12_init_164 7 rfl
theorem dX12_init_180 : decode cX12_init 180 = .ok (.putfield 76, 3) := dk_at bX12_init_164 8 rfl
theorem dX12_init_183 : decode cX12_init 183 = .ok (.aload_n 0, 1) := dk_at bX12_init_164 9 rfl
theorem dX12_init_184 : decode cX12_init 184 = .ok (.bipush 6, 2) := dk_at bX12_init_164 10 rfl
theorem dX12_init_186 : decode cX12_init 186 = .ok (.newarray .int, 2) := dk_at bX12_init_164 11 rfl
theorem dX12_init_188 : decode cX12_init 188 = .ok (.putfield 79, 3) := dk_at bX12_init_164 12 rfl
theorem dX12_init_191 : decode cX12_init 191 = .ok (.aload_n 0, 1) := dk_at bX12_init_164 13 rfl
theorem dX12_init_192 : decode cX12_init 192 = .ok (.bipush 6, 2) := dk_at bX12_init_164 14 rfl
theorem dX12_init_194 : decode cX12_init 194 = .ok (.newarray .int, 2) := dk_at bX12_init_164 15 rfl
theorem dX12_init_196 : decode cX12_init 196 = .ok (.putfield 82, 3) := dk_at bX12_init_164 16 rfl
theorem dX12_init_199 : decode cX12_init 199 = .ok (.aload_n 0, 1) := dk_at bX12_init_164 17 rfl
theorem dX12_init_200 : decode cX12_init 200 = .ok (.bipush 6, 2) := dk_at bX12_init_164 18 rfl
theorem dX12_init_202 : decode cX12_init 202 = .ok (.newarray .int, 2) := dk_at bX12_init_164 19 rfl
theorem dX12_init_204 : decode cX12_init 204 = .ok (.putfield 85, 3) := dk_at bX12_init_164 20 rfl
theorem dX12_init_207 : decode cX12_init 207 = .ok (.aload_n 0, 1) := dk_at bX12_init_164 21 rfl
theorem dX12_init_208 : decode cX12_init 208 = .ok (.bipush 6, 2) := dk_at bX12_init_164 22 rfl
theorem dX12_init_210 : decode cX12_init 210 = .ok (.newarray .boolean, 2) := dk_at bX12_init_164 23 rfl
theorem dX12_init_212 : decode cX12_init 212 = .ok (.putfield 88, 3) := dk_at bX12_init_164 24 rfl
theorem dX12_init_215 : decode cX12_init 215 = .ok (.aload_n 0, 1) := dk_at bX12_init_164 25 rfl
theorem dX12_init_216 : decode cX12_init 216 = .ok (.bipush 6, 2) := dk_at bX12_init_164 26 rfl
theorem dX12_init_218 : decode cX12_init 218 = .ok (.newarray .int, 2) := dk_at bX12_init_164 27 rfl
theorem dX12_init_220 : decode cX12_init 220 = .ok (.putfield 91, 3) := dk_at bX12_init_164 28 rfl
theorem dX12_init_223 : decode cX12_init 223 = .ok (.aload_n 0, 1) := dk_at bX12_init_164 29 rfl
theorem dX12_init_224 : decode cX12_init 224 = .ok (.bipush 6, 2) := dk_at bX12_init_164 30 rfl
theorem dX12_init_226 : decode cX12_init 226 = .ok (.newarray .int, 2) := dk_at bX12_init_164 31 rfl
theorem dX12_init_228 : decode cX12_init 228 = .ok (.putfield 94, 3) := dk_at bX12_init_164 32 rfl
theorem dX12_init_231 : decode cX12_init 231 = .ok (.aload_n 0, 1) := dk_at bX12_init_164 33 rfl
theorem dX12_init_232 : decode cX12_init 232 = .ok (.bipush 6, 2) := dk_at bX12_init_164 34 rfl
theorem dX12_init_234 : decode cX12_init 234 = .ok (.newarray .int, 2) := dk_at bX12_init_164 35 rfl
theorem dX12_init_236 : decode cX12_init 236 = .ok (.putfield 97, 3) := dk_at bX12_init_164 36 rfl
theorem dX12_init_239 : decode cX12_init 239 = .ok (.aload_n 0, 1) := dk_at bX12_init_164 37 rfl
theorem dX12_init_240 : decode cX12_init 240 = .ok (.bipush 6, 2) := dk_at bX12_init_164 38 rfl
theorem dX12_init_242 : decode cX12_init 242 = .ok (.newarray .int, 2) := dk_at bX12_init_164 39 rfl
theorem bX12_init_244 : dk cX12_init [(244, .putfield 100, 3), (247, .aload_n 0, 1), (248, .bipush 6, 2), (250, .newarray .int, 2), (252, .putfield 103, 3), (255, .aload_n 0, 1), (256, .bipush 7, 2), (258, .newarray .int, 2), (260, .putfield 106, 3), (263, .aload_n 0, 1), (264, .bipush 7, 2), (266, .newarray .int, 2), (268, .putfield 109, 3), (271, .aload_n 0, 1), (272, .bipush 7, 2), (274, .newarray .int, 2), (276, .putfield 112, 3), (279, .aload_n 0, 1), (280, .bipush 7, 2), (282, .newarray .int, 2), (284, .putfield 115, 3), (287, .aload_n 0, 1), (288, .bipush 7, 2), (290, .newarray .int, 2), (292, .putfield 118, 3), (295, .aload_n 0, 1), (296, .iconst 4, 1), (297, .newarray .int, 2), (299, .putfield 121, 3), (302, .aload_n 0, 1), (303, .iconst 4, 1), (304, .newarray .int, 2), (306, .putfield 124, 3), (309, .aload_n 0, 1), (310, .bipush 100, 2), (312, .newarray .int, 2), (314, .putfield 127, 3), (317, .aload_n 0, 1), (318, .sipush 512, 3), (321, .newarray .int, 2)] = true := by decide +kernel
theorem dX12_init_244 : decode cX12_init 244 = .ok (.putfield 100, 3) := dk_at bX12_init_244 0 rfl
theorem dX12_init_247 : decode cX12_init 247 = .ok (.aload_n 0, 1) := dk_at bX12_init_244 1 rfl
theorem dX12_init_248 : decode cX12_init 248 = .ok (.bipush 6, 2) := dk_at bX12_init_244 2 rfl
theorem dX12_init_250 : decode cX12_init 250 = .ok (.newarray .int, 2) := dk_at bX12_init_244 3 rfl
theorem dX12_init_252 : decode cX12_init 252 = .ok (.putfield 103, 3) := dk_at bX12_init_244 4 rfl
theorem dX12_init_255 : decode cX12_init 255 = .ok (.aload_n 0, 1) := dk_at bX12_init_244 5 rfl
theorem dX12_init_256 : decode cX12_init 256 = .ok (.bipush 7, 2) := dk_at bX12_init_244 6 rfl
theorem dX12_init_258 : decode cX12_init 258 = .ok (.newarray .int, 2) := dk_at bX12_init_244 7 rfl
theorem dX12_init_260 : decode cX12_init 260 = .ok (.putfield 106, 3) := dk_at bX12_init_244 8 rfl
theorem dX12_init_263 : decode cX12_init 263 = .ok (.aload_n 0, 1) := dk_at bX12_init_244 9 rfl
theorem dX12_init_264 : decode cX12_init 264 = .ok (.bipush 7, 2) := dk_at bX12_init_244 10 rfl
theorem dX12_init_266 : decode cX12_init 266 = .ok (.newarray .int, 2) := dk_at bX12_init_244 11 rfl
theorem dX12_init_268 : decode cX12_init 268 = .ok (.putfield 109, 3) := dk_at bX12_init_244 12 rfl
theorem dX12_init_271 : decode cX12_init 271 = .ok (.aload_n 0, 1) := dk_at bX12_init_244 13 rfl
theorem dX12_init_272 : decode cX12_init 272 = .ok (.bipush 7, 2) := dk_at bX12_init_244 14 rfl
theorem dX12_init_274 : decode cX12_init 274 = .ok (.newarray .int, 2) := dk_at bX12_init_244 15 rfl
theorem dX12_init_276 : decode cX12_init 276 = .ok (.putfield 112, 3) := dk_at bX12_init_244 16 rfl
theorem dX12_init_279 : decode cX12_init 279 = .ok (.aload_n 0, 1) := dk_at bX12_init_244 17 rfl
theorem dX12_init_280 : decode cX12_init 280 = .ok (.bipush 7, 2) := dk_at bX12_init_244 18 rfl
theorem dX12_init_282 : decode cX12_init 282 = .ok (.newarray .int, 2) := dk_at bX12_init_244 19 rfl
theorem dX12_init_284 : decode cX12_init 284 = .ok (.putfield 115, 3) := dk_at bX12_init_244 20 rfl
theorem dX12_init_287 : decode cX12_init 287 = .ok (.aload_n 0, 1) := dk_at bX12_init_244 21 rfl
theorem dX12_init_288 : decode cX12_init 288 = .ok (.bipush 7, 2) := dk_at bX12_init_244 22 rfl
theorem dX12_init_290 : decode cX12_init 290 = .ok (.newarray .int, 2) := dk_at bX12_init_244 23 rfl
theorem dX12_init_292 : decode cX12_init 292 = .ok (.putfield 118, 3) := dk_at bX12_init_244 24 rfl
theorem dX12_init_295 : decode cX12_init 295 = .ok (.aload_n 0, 1) := dk_at bX12_init_244 25 rfl
theorem dX12_init_296 : decode cX12_init 296 = .ok (.iconst 4, 1) := dk_at bX12_init_244 26 rfl
theorem dX12_init_297 : decode cX12_init 297 = .ok (.newarray .int, 2) := dk_at bX12_init_244 27 rfl
theorem dX12_init_299 : decode cX12_init 299 = .ok (.putfield 121, 3) := dk_at bX12_init_244 28 rfl
theorem dX12_init_302 : decode cX12_init 302 = .ok (.aload_n 0, 1) := dk_at bX12_init_244 29 rfl
theorem dX12_init_303 : decode cX12_init 303 = .ok (.iconst 4, 1) := dk_at bX12_init_244 30 rfl
theorem dX12_init_304 : decode cX12_init 304 = .ok (.newarray .int, 2) := dk_at bX12_init_244 31 rfl
theorem dX12_init_306 : decode cX12_init 306 = .ok (.putfield 124, 3) := dk_at bX12_init_244 32 rfl
theorem dX12_init_309 : decode cX12_init 309 = .ok (.aload_n 0, 1) := dk_at bX12_init_244 33 rfl
theorem dX12_init_310 : decode cX12_init 310 = .ok (.bipush 100, 2) := dk_at bX12_init_244 34 rfl
theorem dX12_init_312 : decode cX12_init 312 = .ok (.newarray .int, 2) := dk_at bX12_init_244 35 rfl
theorem dX12_init_314 : decode cX12_init 314 = .ok (.putfield 127, 3) := dk_at bX12_init_244 36 rfl
theorem dX12_init_317 : decode cX12_init 317 = .ok (.aload_n 0, 1) := dk_at bX12_init_244 37 rfl
theorem dX12_init_318 : decode cX12_init 318 = .ok (.sipush 512, 3) := dk_at bX12_init_244 38 rfl
theorem dX12_init_321 : decode cX12_init 321 = .ok (.newarray .int, 2) := dk_at bX12_init_244 39 rfl
theorem bX12_init_323 : dk cX12_init [(323, .putfield 130, 3), (326, .aload_n 0, 1), (327, .sipush 512, 3), (330, .newarray .int, 2), (332, .putfield 133, 3), (335, .aload_n 0, 1), (336, .bipush 7, 2), (338, .newarray .int, 2), (340, .putfield 136, 3), (343, .aload_n 0, 1), (344, .bipush 7, 2), (346, .newarray .int, 2), (348, .putfield 139, 3), (351, .aload_n 0, 1), (352, .iconst 4, 1), (353, .newarray .int, 2), (355, .putfield 142, 3), (358, .aload_n 0, 1), (359, .bipush 7, 2), (361, .newarray .int, 2), (363, .putfield 145, 3), (366, .iconst 0, 1), (367, .istore_n 1, 1), (368, .iload_n 1, 1), (369, .bipush 24, 2), (371, .if_icmp .ge 18, 3), (374, .aload_n 0, 1), (375, .getfield 51, 3), (378, .iload_n 1, 1), (379, .sipush 10000, 3), (382, .iastore, 1), (383, .iinc 1 1, 3), (386, .goto (-18), 3), (389, .iconst 0, 1), (390, .istore_n 1, 1), (391, .iload_n 1, 1), (392, .bipush 7, 2), (394, .if_icmp .ge 17, 3), (397, .aload_n 0, 1), (398, .getfield 33, 3)] = true := by decide +kernel
theorem dX12_init_323 : decode cX12_init 323 = .ok (.putfield 130, 3) := dk_at bX12_init_323 0 rfl
theorem dX12_init_326 : decode cX12_init 326 = .ok (.aload_n 0, 1) := dk_at bX12_init_323 1 rfl
theorem dX12_init_327 : decode cX12_init 327 = .ok (.sipush 512, 3) := dk_at bX12_init_323 2 rfl
theorem dX12_init_330 : decode cX12_init 330 = .ok (.newarray .int, 2) := dk_at bX12_init_323 3 rfl
theorem dX12_init_332 : decode cX12_init 332 = .ok (.putfield 133, 3) := dk_at bX12_init_323 4 rfl
theorem dX12_init_335 : decode cX12_init 335 = .ok (.aload_n 0, 1) := dk_at bX12_init_323 5 rfl
theorem dX12_init_336 : decode cX12_init 336 = .ok (.bipush 7, 2) := dk_at bX12_init_323 6 rfl
theorem dX12_init_338 : decode cX12_init 338 = .ok (.newarray .int, 2) := dk_at bX12_init_323 7 rfl
theorem dX12_init_340 : decode cX12_init 340 = .ok (.putfield 136, 3) := dk_at bX12_init_323 8 rfl
theorem dX12_init_343 : decode cX12_init 343 = .ok (.aload_n 0, 1) := dk_at bX12_init_323 9 rfl
theorem dX12_init_344 : decode cX12_init 344 = .ok (.bipush 7, 2) := dk_at bX12_init_323 10 rfl
theorem dX12_init_346 : decode cX12_init 346 = .ok (.newarray .int, 2) := dk_at bX12_init_323 11 rfl
theorem dX12_init_348 : decode cX12_init 348 = .ok (.putfield 139, 3) := dk_at bX12_init_323 12 rfl
theorem dX12_init_351 : decode cX12_init 351 = .ok (.aload_n 0, 1) := dk_at bX12_init_323 13 rfl
theorem dX12_init_352 : decode cX12_init 352 = .ok (.iconst 4, 1) := dk_at bX12_init_323 14 rfl
theorem dX12_init_353 : decode cX12_init 353 = .ok (.newarray .int, 2) := dk_at bX12_init_323 15 rfl
theorem dX12_init_355 : decode cX12_init 355 = .ok (.putfield 142, 3) := dk_at bX12_init_323 16 rfl
theorem dX12_init_358 : decode cX12_init 358 = .ok (.aload_n 0, 1) := dk_at bX12_init_323 17 rfl
theorem dX12_init_359 : decode cX12_init 359 = .ok (.bipush 7, 2) := dk_at bX12_init_323 18 rfl
theorem dX12_init_361 : decode cX12_init 361 = .ok (.newarray .int, 2) := dk_at bX12_init_323 19 rfl
theorem dX12_init_363 : decode cX12_init 363 = .ok (.putfield 145, 3) := dk_at bX12_init_323 20 rfl
theorem dX12_init_366 : decode cX12_init 366 = .ok (.iconst 0, 1) := dk_at bX12_init_323 21 rfl
theorem dX12_init_367 : decode cX12_init 367 = .ok (.istore_n 1, 1) := dk_at bX12_init_323 22 rfl
theorem dX12_init_368 : decode cX12_init 368 = .ok (.iload_n 1, 1) := dk_at bX12_init_323 23 rfl
theorem dX12_init_369 : decode cX12_init 369 = .ok (.bipush 24, 2) := dk_at bX12_init_323 24 rfl
theorem dX12_init_371 : decode cX12_init 371 = .ok (.if_icmp .ge 18, 3) := dk_at bX12_init_323 25 rfl
theorem dX12_init_374 : decode cX12_init 374 = .ok (.aload_n 0, 1) := dk_at bX12_init_323 26 rfl
theorem dX12_init_375 : decode cX12_init 375 = .ok (.getfield 51, 3) := dk_at bX12_init_323 27 rfl
theorem dX12_init_378 : decode cX12_init 378 = .ok (.iload_n 1, 1) := dk_at bX12_init_323 28 rfl
theorem dX12_init_379 : decode cX12_init 379 = .ok (.sipush 10000, 3) := dk_at bX12_init_323 29 rfl
theorem dX12_init_382 : decode cX12_init 382 = .ok (.iastore, 1) := dk_at bX12_init_323 30 rfl
theorem dX12_init_383 : decode cX12_init 383 = .ok (.iinc 1 1, 3) := dk_at bX12_init_323 31 rfl
theorem dX12_init_386 : decode cX12_init 386 = .ok (.goto (-18), 3) := dk_at bX12_init_323 32 rfl
theorem dX12_init_389 : decode cX12_init 389 = .ok (.iconst 0, 1) := dk_at bX12_init_323 33 rfl
theorem dX12_init_390 : decode cX12_init 390 = .ok (.istore_n 1, 1) := dk_at bX12_init_323 34 rfl
theorem dX12_init_391 : decode cX12_init 391 = .ok (.iload_n 1, 1) := dk_at bX12_init_323 35 rfl
theorem dX12_init_392 : decode cX12_init 392 = .ok (.bipush 7, 2) := dk_at bX12_init_323 36 rfl
theorem dX12_init_394 : decode cX12_init 394 = .ok (.if_icmp .ge 17, 3) := dk_at bX12_init_323 37 rfl
theorem dX12_init_397 : decode cX12_init 397 = .ok (.aload_n 0, 1) := dk_at bX12_init_323 38 rfl
theorem dX12_init_398 : decode cX12_init 398 = .ok (.getfield 33, 3) := dk_at bX12_init_323 39 rfl
theorem bX12_init_401 : dk cX12_init [(401, .iload_n 1, 1), (402, .bipush 9, 2), (404, .iastore, 1), (405, .iinc 1 1, 3), (408, .goto (-17), 3), (411, .iconst 0, 1), (412, .istore_n 1, 1), (413, .iload_n 1, 1), (414, .bipush 100, 2), (416, .if_icmp .ge 27, 3), (419, .aload_n 0, 1), (420, .getfield 127, 3), (423, .iload_n 1, 1), (424, .iload_n 1, 1), (425, .bipush 11, 2), (427, .irem, 1), (428, .ifCond .ne 7, 3), (431, .iconst 0, 1), (432, .goto 4, 3), (435, .iconst (-1), 1), (436, .iastore, 1), (437, .iinc 1 1, 3), (440, .goto (-27), 3), (443, .iconst 0, 1), (444, .istore_n 1, 1), (445, .iload_n 1, 1), (446, .iconst 4, 1), (447, .if_icmp .ge 16, 3), (450, .aload_n 0, 1), (451, .getfield 121, 3), (454, .iload_n 1, 1), (455, .iconst (-1), 1), (456, .iastore, 1), (457, .iinc 1 1, 3), (460, .goto (-15), 3), (463, .return_, 1)] = true := by decide +kernel
theorem dX12_init_401 : decode cX12_init 401 = .ok (.iload_n 1, 1) := dk_at bX12_init_401 0 rfl
theorem dX12_init_402 : decode cX12_init 402 = .ok (.bipush 9, 2) := dk_at bX12_init_401 1 rfl
theorem dX12_init_404 : decode cX12_init 404 = .ok (.iastore, 1) := dk_at bX12_init_401 2 rfl
theorem dX12_init_405 : decode cX12_init 405 = .ok (.iinc 1 1, 3) := dk_at bX12_init_401 3 rfl
theorem dX12_init_408 : decode cX12_init 408 = .ok (.goto (-17), 3) := dk_at bX12_init_401 4 rfl
theorem dX12_init_411 : decode cX12_init 411 = .ok (.iconst 0, 1) := dk_at bX12_init_401 5 rfl
theorem dX12_init_412 : decode cX12_init 412 = .ok (.istore_n 1, 1) := dk_at bX12_init_401 6 rfl
theorem dX12_init_413 : decode cX12_init 413 = .ok (.iload_n 1, 1) := dk_at bX12_init_401 7 rfl
theorem dX12_init_414 : decode cX12_init 414 = .ok (.bipush 100, 2) := dk_at bX12_init_401 8 rfl
theorem dX12_init_416 : decode cX12_init 416 = .ok (.if_icmp .ge 27, 3) := dk_at bX12_init_401 9 rfl
theorem dX12_init_419 : decode cX12_init 419 = .ok (.aload_n 0, 1) := dk_at bX12_init_401 10 rfl
theorem dX12_init_420 : decode cX12_init 420 = .ok (.getfield 127, 3) := dk_at bX12_init_401 11 rfl
theorem dX12_init_423 : decode cX12_init 423 = .ok (.iload_n 1, 1) := dk_at bX12_init_401 12 rfl
theorem dX12_init_424 : decode cX12_init 424 = .ok (.iload_n 1, 1) := dk_at bX12_init_401 13 rfl
theorem dX12_init_425 : decode cX12_init 425 = .ok (.bipush 11, 2) := dk_at bX12_init_401 14 rfl
theorem dX12_init_427 : decode cX12_init 427 = .ok (.irem, 1) := dk_at bX12_init_401 15 rfl
theorem dX12_init_428 : decode cX12_init 428 = .ok (.ifCond .ne 7, 3) := dk_at bX12_init_401 16 rfl
theorem dX12_init_431 : decode cX12_init 431 = .ok (.iconst 0, 1) := dk_at bX12_init_401 17 rfl
theorem dX12_init_432 : decode cX12_init 432 = .ok (.goto 4, 3) := dk_at bX12_init_401 18 rfl
theorem dX12_init_435 : decode cX12_init 435 = .ok (.iconst (-1), 1) := dk_at bX12_init_401 19 rfl
theorem dX12_init_436 : decode cX12_init 436 = .ok (.iastore, 1) := dk_at bX12_init_401 20 rfl
theorem dX12_init_437 : decode cX12_init 437 = .ok (.iinc 1 1, 3) := dk_at bX12_init_401 21 rfl
theorem dX12_init_440 : decode cX12_init 440 = .ok (.goto (-27), 3) := dk_at bX12_init_401 22 rfl
theorem dX12_init_443 : decode cX12_init 443 = .ok (.iconst 0, 1) := dk_at bX12_init_401 23 rfl
theorem dX12_init_444 : decode cX12_init 444 = .ok (.istore_n 1, 1) := dk_at bX12_init_401 24 rfl
theorem dX12_init_445 : decode cX12_init 445 = .ok (.iload_n 1, 1) := dk_at bX12_init_401 25 rfl
theorem dX12_init_446 : decode cX12_init 446 = .ok (.iconst 4, 1) := dk_at bX12_init_401 26 rfl
theorem dX12_init_447 : decode cX12_init 447 = .ok (.if_icmp .ge 16, 3) := dk_at bX12_init_401 27 rfl
theorem dX12_init_450 : decode cX12_init 450 = .ok (.aload_n 0, 1) := dk_at bX12_init_401 28 rfl
theorem dX12_init_451 : decode cX12_init 451 = .ok (.getfield 121, 3) := dk_at bX12_init_401 29 rfl
theorem dX12_init_454 : decode cX12_init 454 = .ok (.iload_n 1, 1) := dk_at bX12_init_401 30 rfl
theorem dX12_init_455 : decode cX12_init 455 = .ok (.iconst (-1), 1) := dk_at bX12_init_401 31 rfl
theorem dX12_init_456 : decode cX12_init 456 = .ok (.iastore, 1) := dk_at bX12_init_401 32 rfl
theorem dX12_init_457 : decode cX12_init 457 = .ok (.iinc 1 1, 3) := dk_at bX12_init_401 33 rfl
theorem dX12_init_460 : decode cX12_init 460 = .ok (.goto (-15), 3) := dk_at bX12_init_401 34 rfl
theorem dX12_init_463 : decode cX12_init 463 = .ok (.return_, 1) := dk_at bX12_init_401 35 rfl
theorem bX12_in_0 : dk cX12_in [(0, .iload_n 0, 1), (1, .iload_n 1, 1), (2, .if_icmp .lt 12, 3), (5, .iload_n 0, 1), (6, .iload_n 2, 1), (7, .if_icmp .gt 7, 3), (10, .iconst 1, 1), (11, .goto 4, 3), (14, .iconst 0, 1), (15, .ireturn, 1)] = true := by decide +kernel
theorem dX12_in_0 : decode cX12_in 0 = .ok (.iload_n 0, 1) := dk_at bX12_in_0 0 rfl
theorem dX12_in_1 : decode cX12_in 1 = .ok (.iload_n 1, 1) := dk_at bX12_in_0 1 rfl
theorem dX12_in_2 : decode cX12_in 2 = .ok (.if_icmp .lt 12, 3) := dk_at bX12_in_0 2 rfl
theorem dX12_in_5 : decode cX12_in 5 = .ok (.iload_n 0, 1) := dk_at bX12_in_0 3 rfl
theorem dX12_in_6 : decode cX12_in 6 = .ok (.iload_n 2, 1) := dk_at bX12_in_0 4 rfl
theorem dX12_in_7 : decode cX12_in 7 = .ok (.if_icmp .gt 7, 3) := dk_at bX12_in_0 5 rfl
theorem dX12_in_10 : decode cX12_in 10 = .ok (.iconst 1, 1) := dk_at bX12_in_0 6 rfl
theorem dX12_in_11 : decode cX12_in 11 = .ok (.goto 4, 3) := dk_at bX12_in_0 7 rfl
theorem dX12_in_14 : decode cX12_in 14 = .ok (.iconst 0, 1) := dk_at bX12_in_0 8 rfl
theorem dX12_in_15 : decode cX12_in 15 = .ok (.ireturn, 1) := dk_at bX12_in_0 9 rfl
set_option maxRecDepth 20000 in
theorem ggX12_isPlace_X12_in : GoodIn wsX12_isPlace wsX12_in := goodIn_r _ [4] rfl (by decide +kernel)
set_option maxRecDepth 20000 in
theorem gX12_isPlace_X12_in : GoodIn wsX12_isPlace (va_wsS RX12 148 yX12_in wsX12_in) := goodIn_app (goodIn_r _ [1, 2, 3] rfl (by decide +kernel)) ggX12_isPlace_X12_in
theorem bX12_isPlace_0 : dk cX12_isPlace [(0, .iload_n 0, 1), (1, .ifCond .lt 33, 3), (4, .iload_n 0, 1), (5, .bipush 100, 2), (7, .idiv, 1), (8, .iconst 0, 1), (9, .bipush 29, 2), (11, .invokestatic 148, 3), (14, .ifCond .eq 20, 3), (17, .iload_n 0, 1), (18, .bipush 100, 2), (20, .irem, 1), (21, .iconst 0, 1), (22, .bipush 19, 2), (24, .invokestatic 148, 3), (27, .ifCond .eq 7, 3), (30, .iconst 1, 1), (31, .goto 4, 3), (34, .iconst 0, 1), (35, .ireturn, 1)] = true := by decide +kernel
theorem dX12_isPlace_0 : decode cX12_isPlace 0 = .ok (.iload_n 0, 1) := dk_at bX12_isPlace_0 0 rfl
theorem dX12_isPlace_1 : decode cX12_isPlace 1 = .ok (.ifCond .lt 33, 3) := dk_at bX12_isPlace_0 1 rfl
theorem dX12_isPlace_4 : decode cX12_isPlace 4 = .ok (.iload_n 0, 1) := dk_at bX12_isPlace_0 2 rfl
theorem dX12_isPlace_5 : decode cX12_isPlace 5 = .ok (.bipush 100, 2) := dk_at bX12_isPlace_0 3 rfl
theorem dX12_isPlace_7 : decode cX12_isPlace 7 = .ok (.idiv, 1) := dk_at bX12_isPlace_0 4 rfl
theorem dX12_isPlace_8 : decode cX12_isPlace 8 = .ok (.iconst 0, 1) := dk_at bX12_isPlace_0 5 rfl
theorem dX12_isPlace_9 : decode cX12_isPlace 9 = .ok (.bipush 29, 2) := dk_at bX12_isPlace_0 6 rfl
theorem dX12_isPlace_11 : decode cX12_isPlace 11 = .ok (.invokestatic 148, 3) := dk_at bX12_isPlace_0 7 rfl
theorem dX12_isPlace_14 : decode cX12_isPlace 14 = .ok (.ifCond .eq 20, 3) := dk_at bX12_isPlace_0 8 rfl
theorem dX12_isPlace_17 : decode cX12_isPlace 17 = .ok (.iload_n 0, 1) := dk_at bX12_isPlace_0 9 rfl
theorem dX12_isPlace_18 : decode cX12_isPlace 18 = .ok (.bipush 100, 2) := dk_at bX12_isPlace_0 10 rfl
theorem dX12_isPlace_20 : decode cX12_isPlace 20 = .ok (.irem, 1) := dk_at bX12_isPlace_0 11 rfl
theorem dX12_isPlace_21 : decode cX12_isPlace 21 = .ok (.iconst 0, 1) := dk_at bX12_isPlace_0 12 rfl
theorem dX12_isPlace_22 : decode cX12_isPlace 22 = .ok (.bipush 19, 2) := dk_at bX12_isPlace_0 13 rfl
theorem dX12_isPlace_24 : decode cX12_isPlace 24 = .ok (.invokestatic 148, 3) := dk_at bX12_isPlace_0 14 rfl
theorem dX12_isPlace_27 : decode cX12_isPlace 27 = .ok (.ifCond .eq 7, 3) := dk_at bX12_isPlace_0 15 rfl
theorem dX12_isPlace_30 : decode cX12_isPlace 30 = .ok (.iconst 1, 1) := dk_at bX12_isPlace_0 16 rfl
theorem dX12_isPlace_31 : decode cX12_isPlace 31 = .ok (.goto 4, 3) := dk_at bX12_isPlace_0 17 rfl
theorem dX12_isPlace_34 : decode cX12_isPlace 34 = .ok (.iconst 0, 1) := dk_at bX12_isPlace_0 18 rfl
theorem dX12_isPlace_35 : decode cX12_isPlace 35 = .ok (.ireturn, 1) := dk_at bX12_isPlace_0 19 rfl
theorem bX12_feed_0 : dk cX12_feed [(0, .aload_n 0, 1), (1, .getfield 152, 3), (4, .bipush 20, 2), (6, .iadd, 1), (7, .sipush 800, 3), (10, .if_icmp .le 6, 3), (13, .bipush (-3), 2), (15, .ireturn, 1), (16, .iconst 0, 1), (17, .istore 6, 2), (19, .iload 6, 2), (21, .iconst 5, 1), (22, .if_icmp .ge 93, 3), (25, .iload 6, 2), (27, .ifCond .ne 7, 3), (30, .iload_n 1, 1), (31, .goto 36, 3), (34, .iload 6, 2), (36, .iconst 1, 1), (37, .if_icmp .ne 7, 3), (40, .iload_n 2, 1), (41, .goto 26, 3), (44, .iload 6, 2), (46, .iconst 2, 1), (47, .if_icmp .ne 7, 3), (50, .iload_n 3, 1), (51, .goto 16, 3), (54, .iload 6, 2), (56, .iconst 3, 1), (57, .if_icmp .ne 8, 3), (60, .iload 4, 2), (62, .goto 5, 3), (65, .iload 5, 2), (67, .istore 7, 2), (69, .bipush 24, 2), (71, .istore 8, 2), (73, .iload 8, 2), (75, .ifCond .lt 34, 3), (78, .aload_n 0, 1), (79, .getfield 7, 3)] = true := by decide +kernel
theorem dX12_feed_0 : decode cX12_feed 0 = .ok (.aload_n 0, 1) := dk_at bX12_feed_0 0 rfl
theorem dX12_feed_1 : decode cX12_feed 1 = .ok (.getfield 152, 3) := dk_at bX12_feed_0 1 rfl
theorem dX12_feed_4 : decode cX12_feed 4 = .ok (.bipush 20, 2) := dk_at bX12_feed_0 2 rfl
theorem dX12_feed_6 : decode cX12_feed 6 = .ok (.iadd, 1) := dk_at bX12_feed_0 3 rfl
theorem dX12_feed_7 : decode cX12_feed 7 = .ok (.sipush 800, 3) := dk_at bX12_feed_0 4 rfl
theorem dX12_feed_10 : decode cX12_feed 10 = .ok (.if_icmp .le 6, 3) := dk_at bX12_feed_0 5 rfl
theorem dX12_feed_13 : decode cX12_feed 13 = .ok (.bipush (-3), 2) := dk_at bX12_feed_0 6 rfl
theorem dX12_feed_15 : decode cX12_feed 15 = .ok (.ireturn, 1) := dk_at bX12_feed_0 7 rfl
theorem dX12_feed_16 : decode cX12_feed 16 = .ok (.iconst 0, 1) := dk_at bX12_feed_0 8 rfl
theorem dX12_feed_17 : decode cX12_feed 17 = .ok (.istore 6, 2) := dk_at bX12_feed_0 9 rfl
theorem dX12_feed_19 : decode cX12_feed 19 = .ok (.iload 6, 2) := dk_at bX12_feed_0 10 rfl
theorem dX12_feed_21 : decode cX12_feed 21 = .ok (.iconst 5, 1) := dk_at bX12_feed_0 11 rfl
theorem dX12_feed_22 : decode cX12_feed 22 = .ok (.if_icmp .ge 93, 3) := dk_at bX12_feed_0 12 rfl
theorem dX12_feed_25 : decode cX12_feed 25 = .ok (.iload 6, 2) := dk_at bX12_feed_0 13 rfl
theorem dX12_feed_27 : decode cX12_feed 27 = .ok (.ifCond .ne 7, 3) := dk_at bX12_feed_0 14 rfl
theorem dX12_feed_30 : decode cX12_feed 30 = .ok (.iload_n 1, 1) := dk_at bX12_feed_0 15 rfl
theorem dX12_feed_31 : decode cX12_feed 31 = .ok (.goto 36, 3) := dk_at bX12_feed_0 16 rfl
theorem dX12_feed_34 : decode cX12_feed 34 = .ok (.iload 6, 2) := dk_at bX12_feed_0 17 rfl
theorem dX12_feed_36 : decode cX12_feed 36 = .ok (.iconst 1, 1) := dk_at bX12_feed_0 18 rfl
theorem dX12_feed_37 : decode cX12_feed 37 = .ok (.if_icmp .ne 7, 3) := dk_at bX12_feed_0 19 rfl
theorem dX12_feed_40 : decode cX12_feed 40 = .ok (.iload_n 2, 1) := dk_at bX12_feed_0 20 rfl
theorem dX12_feed_41 : decode cX12_feed 41 = .ok (.goto 26, 3) := dk_at bX12_feed_0 21 rfl
theorem dX12_feed_44 : decode cX12_feed 44 = .ok (.iload 6, 2) := dk_at bX12_feed_0 22 rfl
theorem dX12_feed_46 : decode cX12_feed 46 = .ok (.iconst 2, 1) := dk_at bX12_feed_0 23 rfl
theorem dX12_feed_47 : decode cX12_feed 47 = .ok (.if_icmp .ne 7, 3) := dk_at bX12_feed_0 24 rfl
theorem dX12_feed_50 : decode cX12_feed 50 = .ok (.iload_n 3, 1) := dk_at bX12_feed_0 25 rfl
theorem dX12_feed_51 : decode cX12_feed 51 = .ok (.goto 16, 3) := dk_at bX12_feed_0 26 rfl
theorem dX12_feed_54 : decode cX12_feed 54 = .ok (.iload 6, 2) := dk_at bX12_feed_0 27 rfl
theorem dX12_feed_56 : decode cX12_feed 56 = .ok (.iconst 3, 1) := dk_at bX12_feed_0 28 rfl
theorem dX12_feed_57 : decode cX12_feed 57 = .ok (.if_icmp .ne 8, 3) := dk_at bX12_feed_0 29 rfl
theorem dX12_feed_60 : decode cX12_feed 60 = .ok (.iload 4, 2) := dk_at bX12_feed_0 30 rfl
theorem dX12_feed_62 : decode cX12_feed 62 = .ok (.goto 5, 3) := dk_at bX12_feed_0 31 rfl
theorem dX12_feed_65 : decode cX12_feed 65 = .ok (.iload 5, 2) := dk_at bX12_feed_0 32 rfl
theorem dX12_feed_67 : decode cX12_feed 67 = .ok (.istore 7, 2) := dk_at bX12_feed_0 33 rfl
theorem dX12_feed_69 : decode cX12_feed 69 = .ok (.bipush 24, 2) := dk_at bX12_feed_0 34 rfl
theorem dX12_feed_71 : decode cX12_feed 71 = .ok (.istore 8, 2) := dk_at bX12_feed_0 35 rfl
theorem dX12_feed_73 : decode cX12_feed 73 = .ok (.iload 8, 2) := dk_at bX12_feed_0 36 rfl
theorem dX12_feed_75 : decode cX12_feed 75 = .ok (.ifCond .lt 34, 3) := dk_at bX12_feed_0 37 rfl
theorem dX12_feed_78 : decode cX12_feed 78 = .ok (.aload_n 0, 1) := dk_at bX12_feed_0 38 rfl
theorem dX12_feed_79 : decode cX12_feed 79 = .ok (.getfield 7, 3) := dk_at bX12_feed_0 39 rfl
theorem bX12_feed_82 : dk cX12_feed [(82, .aload_n 0, 1), (83, .getfield 152, 3), (86, .iload 7, 2), (88, .iload 8, 2), (90, .ishr, 1)] = true := by decide +kernel
theorem dX12_feed_82 : decode cX12_feed 82 = .ok (.aload_n 0, 1) := dk_at bX12_feed_82 0 rfl
theorem dX12_feed_83 : decode cX12_feed 83 = .ok (.getfield 152, 3) := dk_at bX12_feed_82 1 rfl
theorem dX12_feed_86 : decode cX12_feed 86 = .ok (.iload 7, 2) := dk_at bX12_feed_82 2 rfl
theorem dX12_feed_88 : decode cX12_feed 88 = .ok (.iload 8, 2) := dk_at bX12_feed_82 3 rfl
theorem dX12_feed_90 : decode cX12_feed 90 = .ok (.ishr, 1) := dk_at bX12_feed_82 4 rfl
