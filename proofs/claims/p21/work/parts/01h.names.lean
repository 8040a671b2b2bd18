theorem bX12_begin_176 : dk cX12_begin [(176, .aload_n 0, 1), (177, .getfield 103, 3), (180, .iload_n 1, 1), (181, .iconst (-1), 1), (182, .iastore, 1), (183, .iconst 1, 1), (184, .ireturn, 1)] = true := by decide +kernel
theorem dX12_begin_176 : decode cX12_begin 176 = .ok (.aload_n 0, 1) := dk_at bX12_begin_176 0 rfl
theorem dX12_begin_177 : decode cX12_begin 177 = .ok (.getfield 103, 3) := dk_at bX12_begin_176 1 rfl
theorem dX12_begin_180 : decode cX12_begin 180 = .ok (.iload_n 1, 1) := dk_at bX12_begin_176 2 rfl
theorem dX12_begin_181 : decode cX12_begin 181 = .ok (.iconst (-1), 1) := dk_at bX12_begin_176 3 rfl
theorem dX12_begin_182 : decode cX12_begin 182 = .ok (.iastore, 1) := dk_at bX12_begin_176 4 rfl
theorem dX12_begin_183 : decode cX12_begin 183 = .ok (.iconst 1, 1) := dk_at bX12_begin_176 5 rfl
theorem dX12_begin_184 : decode cX12_begin 184 = .ok (.ireturn, 1) := dk_at bX12_begin_176 6 rfl
set_option maxRecDepth 20000 in
theorem ggX12_place_X12_isBoat : GoodIn wsX12_place wsX12_isBoat := goodIn_r _ [9, 10, 11, 8, 12] rfl (by decide +kernel)
set_option maxRecDepth 20000 in
theorem gX12_place_X12_isBoat : GoodIn wsX12_place (va_wsS RX12 222 yX12_isBoat wsX12_isBoat) := goodIn_app (goodIn_r _ [6, 7, 8] rfl (by decide +kernel)) ggX12_place_X12_isBoat
set_option maxRecDepth 20000 in
theorem ggX12_place_X12_isPlace : GoodIn wsX12_place wsX12_isPlace := goodIn_r _ [15, 10, 11, 8, 12] rfl (by decide +kernel)
set_option maxRecDepth 20000 in
theorem gX12_place_X12_isPlace : GoodIn wsX12_place (va_wsS RX12 236 yX12_isPlace wsX12_isPlace) := goodIn_app (goodIn_r _ [13, 14, 8] rfl (by decide +kernel)) ggX12_place_X12_isPlace
theorem bX12_place_0 : dk cX12_place [(0, .iload_n 1, 1), (1, .invokestatic 222, 3), (4, .ifCond .eq 10, 3), (7, .iload_n 2, 1), (8, .invokestatic 236, 3), (11, .ifCond .ne 6, 3), (14, .bipush (-2), 2), (16, .ireturn, 1), (17, .aload_n 0, 1), (18, .getfield 54, 3), (21, .iload_n 1, 1), (22, .baload, 1), (23, .ifCond .eq 21, 3), (26, .aload_n 0, 1), (27, .getfield 58, 3), (30, .iload_n 1, 1), (31, .iaload, 1), (32, .ifCond .ne 12, 3), (35, .aload_n 0, 1), (36, .getfield 79, 3), (39, .iload_n 1, 1), (40, .iaload, 1), (41, .ifCond .le 6, 3), (44, .bipush (-4), 2), (46, .ireturn, 1), (47, .aload_n 0, 1), (48, .getfield 76, 3), (51, .iload_n 1, 1), (52, .iaload, 1), (53, .bipush 8, 2), (55, .if_icmp .ne 6, 3), (58, .bipush (-3), 2), (60, .ireturn, 1), (61, .aload_n 0, 1), (62, .getfield 70, 3), (65, .bipush 8, 2), (67, .iload_n 1, 1), (68, .imul, 1), (69, .aload_n 0, 1), (70, .getfield 76, 3)] = true := by decide +kernel
theorem dX12_place_0 : decode cX12_place 0 = .ok (.iload_n 1, 1) := dk_at bX12_place_0 0 rfl
theorem dX12_place_1 : decode cX12_place 1 = .ok (.invokestatic 222, 3) := dk_at bX12_place_0 1 rfl
theorem dX12_place_4 : decode cX12_place 4 = .ok (.ifCond .eq 10, 3) := dk_at bX12_place_0 2 rfl
theorem dX12_place_7 : decode cX12_place 7 = .ok (.iload_n 2, 1) := dk_at bX12_place_0 3 rfl
theorem dX12_place_8 : decode cX12_place 8 = .ok (.invokestatic 236, 3) := dk_at bX12_place_0 4 rfl
theorem dX12_place_11 : decode cX12_place 11 = .ok (.ifCond .ne 6, 3) := dk_at bX12_place_0 5 rfl
theorem dX12_place_14 : decode cX12_place 14 = .ok (.bipush (-2), 2) := dk_at bX12_place_0 6 rfl
theorem dX12_place_16 : decode cX12_place 16 = .ok (.ireturn, 1) := dk_at bX12_place_0 7 rfl
theorem dX12_place_17 : decode cX12_place 17 = .ok (.aload_n 0, 1) := dk_at bX12_place_0 8 rfl
theorem dX12_place_18 : decode cX12_place 18 = .ok (.getfield 54, 3) := dk_at bX12_place_0 9 rfl
theorem dX12_place_21 : decode cX12_place 21 = .ok (.iload_n 1, 1) := dk_at bX12_place_0 10 rfl
theorem dX12_place_22 : decode cX12_place 22 = .ok (.baload, 1) := dk_at bX12_place_0 11 rfl
theorem dX12_place_23 : decode cX12_place 23 = .ok (.ifCond .eq 21, 3) := dk_at bX12_place_0 12 rfl
theorem dX12_place_26 : decode cX12_place 26 = .ok (.aload_n 0, 1) := dk_at bX12_place_0 13 rfl
theorem dX12_place_27 : decode cX12_place 27 = .ok (.getfield 58, 3) := dk_at bX12_place_0 14 rfl
theorem dX12_place_30 : decode cX12_place 30 = .ok (.iload_n 1, 1) := dk_at bX12_place_0 15 rfl
theorem dX12_place_31 : decode cX12_place 31 = .ok (.iaload, 1) := dk_at bX12_place_0 16 rfl
theorem dX12_place_32 : decode cX12_place 32 = .ok (.ifCond .ne 12, 3) := dk_at bX12_place_0 17 rfl
theorem dX12_place_35 : decode cX12_place 35 = .ok (.aload_n 0, 1) := dk_at bX12_place_0 18 rfl
theorem dX12_place_36 : decode cX12_place 36 = .ok (.getfield 79, 3) := dk_at bX12_place_0 19 rfl
theorem dX12_place_39 : decode cX12_place 39 = .ok (.iload_n 1, 1) := dk_at bX12_place_0 20 rfl
theorem dX12_place_40 : decode cX12_place 40 = .ok (.iaload, 1) := dk_at bX12_place_0 21 rfl
theorem dX12_place_41 : decode cX12_place 41 = .ok (.ifCond .le 6, 3) := dk_at bX12_place_0 22 rfl
theorem dX12_place_44 : decode cX12_place 44 = .ok (.bipush (-4), 2) := dk_at bX12_place_0 23 rfl
theorem dX12_place_46 : decode cX12_place 46 = .ok (.ireturn, 1) := dk_at bX12_place_0 24 rfl
theorem dX12_place_47 : decode cX12_place 47 = .ok (.aload_n 0, 1) := dk_at bX12_place_0 25 rfl
theorem dX12_place_48 : decode cX12_place 48 = .ok (.getfield 76, 3) := dk_at bX12_place_0 26 rfl
theorem dX12_place_51 : decode cX12_place 51 = .ok (.iload_n 1, 1) := dk_at bX12_place_0 27 rfl
theorem dX12_place_52 : decode cX12_place 52 = .ok (.iaload, 1) := dk_at bX12_place_0 28 rfl
theorem dX12_place_53 : decode cX12_place 53 = .ok (.bipush 8, 2) := dk_at bX12_place_0 29 rfl
theorem dX12_place_55 : decode cX12_place 55 = .ok (.if_icmp .ne 6, 3) := dk_at bX12_place_0 30 rfl
theorem dX12_place_58 : decode cX12_place 58 = .ok (.bipush (-3), 2) := dk_at bX12_place_0 31 rfl
theorem dX12_place_60 : decode cX12_place 60 = .ok (.ireturn, 1) := dk_at bX12_place_0 32 rfl
theorem dX12_place_61 : decode cX12_place 61 = .ok (.aload_n 0, 1) := dk_at bX12_place_0 33 rfl
theorem dX12_place_62 : decode cX12_place 62 = .ok (.getfield 70, 3) := dk_at bX12_place_0 34 rfl
theorem dX12_place_65 : decode cX12_place 65 = .ok (.bipush 8, 2) := dk_at bX12_place_0 35 rfl
theorem dX12_place_67 : decode cX12_place 67 = .ok (.iload_n 1, 1) := dk_at bX12_place_0 36 rfl
theorem dX12_place_68 : decode cX12_place 68 = .ok (.imul, 1) := dk_at bX12_place_0 37 rfl
theorem dX12_place_69 : decode cX12_place 69 = .ok (.aload_n 0, 1) := dk_at bX12_place_0 38 rfl
theorem dX12_place_70 : decode cX12_place 70 = .ok (.getfield 76, 3) := dk_at bX12_place_0 39 rfl
theorem bX12_place_73 : dk cX12_place [(73, .iload_n 1, 1), (74, .iaload, 1), (75, .iadd, 1), (76, .iload_n 2, 1), (77, .iastore, 1), (78, .aload_n 0, 1), (79, .getfield 76, 3), (82, .iload_n 1, 1), (83, .dup2, 1), (84, .iaload, 1), (85, .iconst 1, 1), (86, .iadd, 1), (87, .iastore, 1), (88, .aload_n 0, 1), (89, .getfield 76, 3), (92, .iload_n 1, 1), (93, .iaload, 1), (94, .ireturn, 1)] = true := by decide +kernel
theorem dX12_place_73 : decode cX12_place 73 = .ok (.iload_n 1, 1) := dk_at bX12_place_73 0 rfl
theorem dX12_place_74 : decode cX12_place 74 = .ok (.iaload, 1) := dk_at bX12_place_73 1 rfl
theorem dX12_place_75 : decode cX12_place 75 = .ok (.iadd, 1) := dk_at bX12_place_73 2 rfl
theorem dX12_place_76 : decode cX12_place 76 = .ok (.iload_n 2, 1) := dk_at bX12_place_73 3 rfl
theorem dX12_place_77 : decode cX12_place 77 = .ok (.iastore, 1) := dk_at bX12_place_73 4 rfl
theorem dX12_place_78 : decode cX12_place 78 = .ok (.aload_n 0, 1) := dk_at bX12_place_73 5 rfl
theorem dX12_place_79 : decode cX12_place 79 = .ok (.getfield 76, 3) := dk_at bX12_place_73 6 rfl
theorem dX12_place_82 : decode cX12_place 82 = .ok (.iload_n 1, 1) := dk_at bX12_place_73 7 rfl
theorem dX12_place_83 : decode cX12_place 83 = .ok (.dup2, 1) := dk_at bX12_place_73 8 rfl
theorem dX12_place_84 : decode cX12_place 84 = .ok (.iaload, 1) := dk_at bX12_place_73 9 rfl
theorem dX12_place_85 : decode cX12_place 85 = .ok (.iconst 1, 1) := dk_at bX12_place_73 10 rfl
theorem dX12_place_86 : decode cX12_place 86 = .ok (.iadd, 1) := dk_at bX12_place_73 11 rfl
theorem dX12_place_87 : decode cX12_place 87 = .ok (.iastore, 1) := dk_at bX12_place_73 12 rfl
theorem dX12_place_88 : decode cX12_place 88 = .ok (.aload_n 0, 1) := dk_at bX12_place_73 13 rfl
theorem dX12_place_89 : decode cX12_place 89 = .ok (.getfield 76, 3) := dk_at bX12_place_73 14 rfl
theorem dX12_place_92 : decode cX12_place 92 = .ok (.iload_n 1, 1) := dk_at bX12_place_73 15 rfl
theorem dX12_place_93 : decode cX12_place 93 = .ok (.iaload, 1) := dk_at bX12_place_73 16 rfl
theorem dX12_place_94 : decode cX12_place 94 = .ok (.ireturn, 1) := dk_at bX12_place_73 17 rfl
theorem bX12_brokenOf_0 : dk cX12_brokenOf [(0, .iconst 0, 1), (1, .istore_n 2, 1), (2, .iconst 4, 1), (3, .iload_n 1, 1), (4, .imul, 1), (5, .istore_n 3, 1), (6, .iload_n 3, 1), (7, .iconst 4, 1), (8, .iload_n 1, 1), (9, .imul, 1), (10, .iconst 4, 1), (11, .iadd, 1), (12, .if_icmp .ge 27, 3), (15, .iload_n 2, 1), (16, .aload_n 0, 1), (17, .getfield 51, 3), (20, .iload_n 3, 1), (21, .iaload, 1), (22, .iconst (-1), 1), (23, .if_icmp .ne 7, 3), (26, .iconst 1, 1), (27, .goto 4, 3), (30, .iconst 0, 1), (31, .iadd, 1), (32, .istore_n 2, 1), (33, .iinc 3 1, 3), (36, .goto (-30), 3), (39, .iload_n 2, 1), (40, .ireturn, 1)] = true := by decide +kernel
theorem dX12_brokenOf_0 : decode cX12_brokenOf 0 = .ok (.iconst 0, 1) := dk_at bX12_brokenOf_0 0 rfl
theorem dX12_brokenOf_1 : decode cX12_brokenOf 1 = .ok (.istore_n 2, 1) := dk_at bX12_brokenOf_0 1 rfl
theorem dX12_brokenOf_2 : decode cX12_brokenOf 2 = .ok (.iconst 4, 1) := dk_at bX12_brokenOf_0 2 rfl
theorem dX12_brokenOf_3 : decode cX12_brokenOf 3 = .ok (.iload_n 1, 1) := dk_at bX12_brokenOf_0 3 rfl
theorem dX12_brokenOf_4 : decode cX12_brokenOf 4 = .ok (.imul, 1) := dk_at bX12_brokenOf_0 4 rfl
theorem dX12_brokenOf_5 : decode cX12_brokenOf 5 = .ok (.istore_n 3, 1) := dk_at bX12_brokenOf_0 5 rfl
theorem dX12_brokenOf_6 : decode cX12_brokenOf 6 = .ok (.iload_n 3, 1) := dk_at bX12_brokenOf_0 6 rfl
theorem dX12_brokenOf_7 : decode cX12_brokenOf 7 = .ok (.iconst 4, 1) := dk_at bX12_brokenOf_0 7 rfl
theorem dX12_brokenOf_8 : decode cX12_brokenOf 8 = .ok (.iload_n 1, 1) := dk_at bX12_brokenOf_0 8 rfl
theorem dX12_brokenOf_9 : decode cX12_brokenOf 9 = .ok (.imul, 1) := dk_at bX12_brokenOf_0 9 rfl
theorem dX12_brokenOf_10 : decode cX12_brokenOf 10 = .ok (.iconst 4, 1) := dk_at bX12_brokenOf_0 10 rfl
theorem dX12_brokenOf_11 : decode cX12_brokenOf 11 = .ok (.iadd, 1) := dk_at bX12_brokenOf_0 11 rfl
theorem dX12_brokenOf_12 : decode cX12_brokenOf 12 = .ok (.if_icmp .ge 27, 3) := dk_at bX12_brokenOf_0 12 rfl
theorem dX12_brokenOf_15 : decode cX12_brokenOf 15 = .ok (.iload_n 2, 1) := dk_at bX12_brokenOf_0 13 rfl
theorem dX12_brokenOf_16 : decode cX12_brokenOf 16 = .ok (.aload_n 0, 1) := dk_at bX12_brokenOf_0 14 rfl
theorem dX12_brokenOf_17 : decode cX12_brokenOf 17 = .ok (.getfield 51, 3) := dk_at bX12_brokenOf_0 15 rfl
theorem dX12_brokenOf_20 : decode cX12_brokenOf 20 = .ok (.iload_n 3, 1) := dk_at bX12_brokenOf_0 16 rfl
theorem dX12_brokenOf_21 : decode cX12_brokenOf 21 = .ok (.iaload, 1) := dk_at bX12_brokenOf_0 17 rfl
theorem dX12_brokenOf_22 : decode cX12_brokenOf 22 = .ok (.iconst (-1), 1) := dk_at bX12_brokenOf_0 18 rfl
theorem dX12_brokenOf_23 : decode cX12_brokenOf 23 = .ok (.if_icmp .ne 7, 3) := dk_at bX12_brokenOf_0 19 rfl
theorem dX12_brokenOf_26 : decode cX12_brokenOf 26 = .ok (.iconst 1, 1) := dk_at bX12_brokenOf_0 20 rfl
theorem dX12_brokenOf_27 : decode cX12_brokenOf 27 = .ok (.goto 4, 3) := dk_at bX12_brokenOf_0 21 rfl
theorem dX12_brokenOf_30 : decode cX12_brokenOf 30 = .ok (.iconst 0, 1) := dk_at bX12_brokenOf_0 22 rfl
theorem dX12_brokenOf_31 : decode cX12_brokenOf 31 = .ok (.iadd, 1) := dk_at bX12_brokenOf_0 23 rfl
theorem dX12_brokenOf_32 : decode cX12_brokenOf 32 = .ok (.istore_n 2, 1) := dk_at bX12_brokenOf_0 24 rfl
theorem dX12_brokenOf_33 : decode cX12_brokenOf 33 = .ok (.iinc 3 1, 3) := dk_at bX12_brokenOf_0 25 rfl
theorem dX12_brokenOf_36 : decode cX12_brokenOf 36 = .ok (.goto (-30), 3) := dk_at bX12_brokenOf_0 26 rfl
theorem dX12_brokenOf_39 : decode cX12_brokenOf 39 = .ok (.iload_n 2, 1) := dk_at bX12_brokenOf_0 27 rfl
theorem dX12_brokenOf_40 : decode cX12_brokenOf 40 = .ok (.ireturn, 1) := dk_at bX12_brokenOf_0 28 rfl
set_option maxRecDepth 20000 in
theorem ggX12_acts_X12_brokenOf : GoodIn wsX12_acts wsX12_brokenOf := goodIn_r _ [9, 10, 11, 12, 13, 14, 15, 16, 17, 18, 19, 20, 21, 22, 23, 24, 25, 26, 27, 28, 29, 30, 31, 32, 33, 34, 35, 36, 37, 38, 39, 40, 41, 42, 43, 44, 45, 46, 47, 48, 49, 50, 51, 52, 53, 54, 55, 56, 57, 58, 59, 60, 61, 62, 63, 64, 65, 66, 67, 68, 69] rfl (by decide +kernel)
set_option maxRecDepth 20000 in
theorem gX12_acts_X12_brokenOf : GoodIn wsX12_acts (wsV RX12 252 RX12 yX12_brokenOf wsX12_brokenOf) := goodIn_app (goodIn_r _ [5, 6, 7, 8] rfl (by decide +kernel)) ggX12_acts_X12_brokenOf
theorem bX12_acts_0 : dk cX12_acts [(0, .bipush 48, 2), (2, .iload_n 1, 1), (3, .imul, 1), (4, .istore_n 3, 1), (5, .iload_n 3, 1), (6, .iconst 4, 1), (7, .bipush 12, 2), (9, .iload_n 1, 1), (10, .imul, 1), (11, .aload_n 0, 1), (12, .getfield 21, 3), (15, .iload_n 1, 1), (16, .iaload, 1), (17, .iadd, 1), (18, .imul, 1), (19, .if_icmp .ge 118, 3), (22, .aload_n 0, 1), (23, .getfield 17, 3), (26, .iload_n 3, 1), (27, .iaload, 1), (28, .ifCond .ne 7, 3), (31, .iload_n 2, 1), (32, .goto 48, 3), (35, .aload_n 0, 1), (36, .getfield 17, 3), (39, .iload_n 3, 1), (40, .iaload, 1), (41, .iconst 1, 1), (42, .if_icmp .ne 12, 3), (45, .aload_n 0, 1), (46, .getfield 48, 3), (49, .iload_n 1, 1), (50, .iaload, 1), (51, .goto 29, 3), (54, .aload_n 0, 1), (55, .getfield 17, 3), (58, .iload_n 3, 1), (59, .iaload, 1), (60, .iconst 2, 1), (61, .if_icmp .ne 14, 3)] = true := by decide +kernel
theorem dX12_acts_0 : decode cX12_acts 0 = .ok (.bipush 48, 2) := dk_at bX12_acts_0 0 rfl
theorem dX12_acts_2 : decode cX12_acts 2 = .ok (.iload_n 1, 1) := dk_at bX12_acts_0 1 rfl
theorem dX12_acts_3 : decode cX12_acts 3 = .ok (.imul, 1) := dk_at bX12_acts_0 2 rfl
theorem dX12_acts_4 : decode cX12_acts 4 = .ok (.istore_n 3, 1) := dk_at bX12_acts_0 3 rfl
theorem dX12_acts_5 : decode cX12_acts 5 = .ok (.iload_n 3, 1) := dk_at bX12_acts_0 4 rfl
theorem dX12_acts_6 : decode cX12_acts 6 = .ok (.iconst 4, 1) := dk_at bX12_acts_0 5 rfl
theorem dX12_acts_7 : decode cX12_acts 7 = .ok (.bipush 12, 2) := dk_at bX12_acts_0 6 rfl
theorem dX12_acts_9 : decode cX12_acts 9 = .ok (.iload_n 1, 1) := dk_at bX12_acts_0 7 rfl
theorem dX12_acts_10 : decode cX12_acts 10 = .ok (.imul, 1) := dk_at bX12_acts_0 8 rfl
theorem dX12_acts_11 : decode cX12_acts 11 = .ok (.aload_n 0, 1) := dk_at bX12_acts_0 9 rfl
theorem dX12_acts_12 : decode cX12_acts 12 = .ok (.getfield 21, 3) := dk_at bX12_acts_0 10 rfl
theorem dX12_acts_15 : decode cX12_acts 15 = .ok (.iload_n 1, 1) := dk_at bX12_acts_0 11 rfl
theorem dX12_acts_16 : decode cX12_acts 16 = .ok (.iaload, 1) := dk_at bX12_acts_0 12 rfl
theorem dX12_acts_17 : decode cX12_acts 17 = .ok (.iadd, 1) := dk_at bX12_acts_0 13 rfl
theorem dX12_acts_18 : decode cX12_acts 18 = .ok (.imul, 1) := dk_at bX12_acts_0 14 rfl
theorem dX12_acts_19 : decode cX12_acts 19 = .ok (.if_icmp .ge 118, 3) := dk_at bX12_acts_0 15 rfl
theorem dX12_acts_22 : decode cX12_acts 22 = .ok (.aload_n 0, 1) := dk_at bX12_acts_0 16 rfl
theorem dX12_acts_23 : decode cX12_acts 23 = .ok (.getfield 17, 3) := dk_at bX12_acts_0 17 rfl
theorem dX12_acts_26 : decode cX12_acts 26 = .ok (.iload_n 3, 1) := dk_at bX12_acts_0 18 rfl
theorem dX12_acts_27 : decode cX12_acts 27 = .ok (.iaload, 1) := dk_at bX12_acts_0 19 rfl
theorem dX12_acts_28 : decode cX12_acts 28 = .ok (.ifCond .ne 7, 3) := dk_at bX12_acts_0 20 rfl
theorem dX12_acts_31 : decode cX12_acts 31 = .ok (.iload_n 2, 1) := dk_at bX12_acts_0 21 rfl
theorem dX12_acts_32 : decode cX12_acts 32 = .ok (.goto 48, 3) := dk_at bX12_acts_0 22 rfl
theorem dX12_acts_35 : decode cX12_acts 35 = .ok (.aload_n 0, 1) := dk_at bX12_acts_0 23 rfl
theorem dX12_acts_36 : decode cX12_acts 36 = .ok (.getfield 17, 3) := dk_at bX12_acts_0 24 rfl
theorem dX12_acts_39 : decode cX12_acts 39 = .ok (.iload_n 3, 1) := dk_at bX12_acts_0 25 rfl
theorem dX12_acts_40 : decode cX12_acts 40 = .ok (.iaload, 1) := dk_at bX12_acts_0 26 rfl
theorem dX12_acts_41 : decode cX12_acts 41 = .ok (.iconst 1, 1) := dk_at bX12_acts_0 27 rfl
theorem dX12_acts_42 : decode cX12_acts 42 = .ok (.if_icmp .ne 12, 3) := dk_at bX12_acts_0 28 rfl
theorem dX12_acts_45 : decode cX12_acts 45 = .ok (.aload_n 0, 1) := dk_at bX12_acts_0 29 rfl
theorem dX12_acts_46 : decode cX12_acts 46 = .ok (.getfield 48, 3) := dk_at bX12_acts_0 30 rfl
theorem dX12_acts_49 : decode cX12_acts 49 = .ok (.iload_n 1, 1) := dk_at bX12_acts_0 31 rfl
theorem dX12_acts_50 : decode cX12_acts 50 = .ok (.iaload, 1) := dk_at bX12_acts_0 32 rfl
theorem dX12_acts_51 : decode cX12_acts 51 = .ok (.goto 29, 3) := dk_at bX12_acts_0 33 rfl
theorem dX12_acts_54 : decode cX12_acts 54 = .ok (.aload_n 0, 1) := dk_at bX12_acts_0 34 rfl
theorem dX12_acts_55 : decode cX12_acts 55 = .ok (.getfield 17, 3) := dk_at bX12_acts_0 35 rfl
theorem dX12_acts_58 : decode cX12_acts 58 = .ok (.iload_n 3, 1) := dk_at bX12_acts_0 36 rfl
theorem dX12_acts_59 : decode cX12_acts 59 = .ok (.iaload, 1) := dk_at bX12_acts_0 37 rfl
theorem dX12_acts_60 : decode cX12_acts 60 = .ok (.iconst 2, 1) := dk_at bX12_acts_0 38 rfl
theorem dX12_acts_61 : decode cX12_acts 61 = .ok (.if_icmp .ne 14, 3) := dk_at bX12_acts_0 39 rfl
theorem bX12_acts_64 : dk cX12_acts [(64, .aload_n 0, 1), (65, .getfield 79, 3), (68, .iload_n 1, 1), (69, .iaload, 1), (70, .iconst 4, 1), (71, .idiv, 1), (72, .goto 8, 3), (75, .aload_n 0, 1), (76, .iload_n 1, 1), (77, .invokevirtual 252, 3), (80, .istore 4, 2), (82, .aload_n 0, 1), (83, .getfield 17, 3), (86, .iload_n 3, 1), (87, .iconst 1, 1), (88, .iadd, 1), (89, .iaload, 1), (90, .ifCond .ne 19, 3), (93, .iload 4, 2), (95, .aload_n 0, 1), (96, .getfield 17, 3), (99, .iload_n 3, 1), (100, .iconst 2, 1), (101, .iadd, 1), (102, .iaload, 1), (103, .if_icmp .le 28, 3), (106, .goto 16, 3), (109, .iload 4, 2), (111, .aload_n 0, 1), (112, .getfield 17, 3), (115, .iload_n 3, 1), (116, .iconst 2, 1), (117, .iadd, 1), (118, .iaload, 1), (119, .if_icmp .ge 12, 3), (122, .aload_n 0, 1), (123, .getfield 17, 3), (126, .iload_n 3, 1), (127, .iconst 3, 1), (128, .iadd, 1)] = true := by decide +kernel
theorem dX12_acts_64 : decode cX12_acts 64 = .ok (.aload_n 0, 1) := dk_at bX12_acts_64 0 rfl
theorem dX12_acts_65 : decode cX12_acts 65 = .ok (.getfield 79, 3) := dk_at bX12_acts_64 1 rfl
theorem dX12_acts_68 : decode cX12_acts 68 = .ok (.iload_n 1, 1) := dk_at bX12_acts_64 2 rfl
theorem dX12_acts_69 : decode cX12_acts 69 = .ok (.iaload, 1) := dk_at bX12_acts_64 3 rfl
theorem dX12_acts_70 : decode cX12_acts 70 = .ok (.iconst 4, 1) := dk_at bX12_acts_64 4 rfl
theorem dX12_acts_71 : decode cX12_acts 71 = .ok (.idiv, 1) := dk_at bX12_acts_64 5 rfl
theorem dX12_acts_72 : decode cX12_acts 72 = .ok (.goto 8, 3) := dk_at bX12_acts_64 6 rfl
theorem dX12_acts_75 : decode cX12_acts 75 = .ok (.aload_n 0, 1) := dk_at bX12_acts_64 7 rfl
theorem dX12_acts_76 : decode cX12_acts 76 = .ok (.iload_n 1, 1) := dk_at bX12_acts_64 8 rfl
theorem dX12_acts_77 : decode cX12_acts 77 = .ok (.invokevirtual 252, 3) := dk_at bX12_acts_64 9 rfl
theorem dX12_acts_80 : decode cX12_acts 80 = .ok (.istore 4, 2) := dk_at bX12_acts_64 10 rfl
theorem dX12_acts_82 : decode cX12_acts 82 = .ok (.aload_n 0, 1) := dk_at bX12_acts_64 11 rfl
theorem dX12_acts_83 : decode cX12_acts 83 = .ok (.getfield 17, 3) := dk_at bX12_acts_64 12 rfl
theorem dX12_acts_86 : decode cX12_acts 86 = .ok (.iload_n 3, 1) := dk_at bX12_acts_64 13 rfl
theorem dX12_acts_87 : decode cX12_acts 87 = .ok (.iconst 1, 1) := dk_at bX12_acts_64 14 rfl
theorem dX12_acts_88 : decode cX12_acts 88 = .ok (.iadd, 1) := dk_at bX12_acts_64 15 rfl
theorem dX12_acts_89 : decode cX12_acts 89 = .ok (.iaload, 1) := dk_at bX12_acts_64 16 rfl
theorem dX12_acts_90 : decode cX12_acts 90 = .ok (.ifCond .ne 19, 3) := dk_at bX12_acts_64 17 rfl
theorem dX12_acts_93 : decode cX12_acts 93 = .ok (.iload 4, 2) := dk_at bX12_acts_64 18 rfl
theorem dX12_acts_95 : decode cX12_acts 95 = .ok (.aload_n 0, 1) := dk_at bX12_acts_64 19 rfl
theorem dX12_acts_96 : decode cX12_acts 96 = .ok (.getfield 17, 3) := dk_at bX12_acts_64 20 rfl
theorem dX12_acts_99 : decode cX12_acts 99 = .ok (.iload_n 3, 1) := dk_at bX12_acts_64 21 rfl
theorem dX12_acts_100 : decode cX12_acts 100 = .ok (.iconst 2, 1) := dk_at bX12_acts_64 22 rfl
theorem dX12_acts_101 : decode cX12_acts 101 = .ok (.iadd, 1) := dk_at bX12_acts_64 23 rfl
theorem dX12_acts_102 : decode cX12_acts 102 = .ok (.iaload, 1) := dk_at bX12_acts_64 24 rfl
theorem dX12_acts_103 : decode cX12_acts 103 = .ok (.if_icmp .le 28, 3) := dk_at bX12_acts_64 25 rfl
theorem dX12_acts_106 : decode cX12_acts 106 = .ok (.goto 16, 3) := dk_at bX12_acts_64 26 rfl
theorem dX12_acts_109 : decode cX12_acts 109 = .ok (.iload 4, 2) := dk_at bX12_acts_64 27 rfl
theorem dX12_acts_111 : decode cX12_acts 111 = .ok (.aload_n 0, 1) := dk_at bX12_acts_64 28 rfl
theorem dX12_acts_112 : decode cX12_acts 112 = .ok (.getfield 17, 3) := dk_at bX12_acts_64 29 rfl
theorem dX12_acts_115 : decode cX12_acts 115 = .ok (.iload_n 3, 1) := dk_at bX12_acts_64 30 rfl
theorem dX12_acts_116 : decode cX12_acts 116 = .ok (.iconst 2, 1) := dk_at bX12_acts_64 31 rfl
theorem dX12_acts_117 : decode cX12_acts 117 = .ok (.iadd, 1) := dk_at bX12_acts_64 32 rfl
theorem dX12_acts_118 : decode cX12_acts 118 = .ok (.iaload, 1) := dk_at bX12_acts_64 33 rfl
theorem dX12_acts_119 : decode cX12_acts 119 = .ok (.if_icmp .ge 12, 3) := dk_at bX12_acts_64 34 rfl
theorem dX12_acts_122 : decode cX12_acts 122 = .ok (.aload_n 0, 1) := dk_at bX12_acts_64 35 rfl
theorem dX12_acts_123 : decode cX12_acts 123 = .ok (.getfield 17, 3) := dk_at bX12_acts_64 36 rfl
theorem dX12_acts_126 : decode cX12_acts 126 = .ok (.iload_n 3, 1) := dk_at bX12_acts_64 37 rfl
theorem dX12_acts_127 : decode cX12_acts 127 = .ok (.iconst 3, 1) := dk_at bX12_acts_64 38 rfl
theorem dX12_acts_128 : decode cX12_acts 128 = .ok (.iadd, 1) := dk_at bX12_acts_64 39 rfl
theorem bX12_acts_129 : dk cX12_acts [(129, .iaload, 1), (130, .ireturn, 1), (131, .iinc 3 4, 3), (134, .goto (-129), 3), (137, .iconst (-1), 1), (138, .ireturn, 1)] = true := by decide +kernel
theorem dX12_acts_129 : decode cX12_acts 129 = .ok (.iaload, 1) := dk_at bX12_acts_129 0 rfl
theorem dX12_acts_130 : decode cX12_acts 130 = .ok (.ireturn, 1) := dk_at bX12_acts_129 1 rfl
theorem dX12_acts_131 : decode cX12_acts 131 = .ok (.iinc 3 4, 3) := dk_at bX12_acts_129 2 rfl
theorem dX12_acts_134 : decode cX12_acts 134 = .ok (.goto (-129), 3) := dk_at bX12_acts_129 3 rfl
theorem dX12_acts_137 : decode cX12_acts 137 = .ok (.iconst (-1), 1) := dk_at bX12_acts_129 4 rfl
theorem dX12_acts_138 : decode cX12_acts 138 = .ok (.ireturn, 1) := dk_at bX12_acts_129 5 rfl
theorem bX12_passes_0 : dk cX12_passes [(0, .aload_n 0, 1), (1, .getfield 73, 3), (4, .iload_n 1, 1), (5, .iaload, 1), (6, .aload_n 0, 1), (7, .getfield 76, 3), (10, .iload_n 1, 1), (11, .iaload, 1), (12, .if_icmp .ge 41, 3), (15, .aload_n 0, 1), (16, .getfield 70, 3), (19, .bipush 8, 2), (21, .iload_n 1, 1), (22, .imul, 1), (23, .aload_n 0, 1), (24, .getfield 73, 3), (27, .iload_n 1, 1), (28, .iaload, 1), (29, .iadd, 1), (30, .iaload, 1), (31, .aload_n 0, 1), (32, .getfield 82, 3), (35, .iload_n 1, 1), (36, .iaload, 1), (37, .if_icmp .ne 16, 3), (40, .aload_n 0, 1), (41, .getfield 73, 3), (44, .iload_n 1, 1), (45, .dup2, 1), (46, .iaload, 1), (47, .iconst 1, 1), (48, .iadd, 1), (49, .iastore, 1), (50, .goto (-50), 3), (53, .aload_n 0, 1), (54, .getfield 73, 3), (57, .iload_n 1, 1), (58, .iaload, 1), (59, .aload_n 0, 1), (60, .getfield 76, 3)] = true := by decide +kernel
theorem dX12_passes_0 : decode cX12_passes 0 = .ok (.aload_n 0, 1) := dk_at bX12_passes_0 0 rfl
theorem dX12_passes_1 : decode cX12_passes 1 = .ok (.getfield 73, 3) := dk_at bX12_passes_0 1 rfl
theorem dX12_passes_4 : decode cX12_passes 4 = .ok (.iload_n 1, 1) := dk_at bX12_passes_0 2 rfl
theorem dX12_passes_5 : decode cX12_passes 5 = .ok (.iaload, 1) := dk_at bX12_passes_0 3 rfl
theorem dX12_passes_6 : decode cX12_passes 6 = .ok (.aload_n 0, 1) := dk_at bX12_passes_0 4 rfl
theorem dX12_passes_7 : decode cX12_passes 7 = .ok (.getfield 76, 3) := dk_at bX12_passes_0 5 rfl
theorem dX12_passes_10 : decode cX12_passes 10 = .ok (.iload_n 1, 1) := dk_at bX12_passes_0 6 rfl
theorem dX12_passes_11 : decode cX12_passes 11 = .ok (.iaload, 1) := dk_at bX12_passes_0 7 rfl
theorem dX12_passes_12 : decode cX12_passes 12 = .ok (.if_icmp .ge 41, 3) := dk_at bX12_passes_0 8 rfl
theorem dX12_passes_15 : decode cX12_passes 15 = .ok (.aload_n 0, 1) := dk_at bX12_passes_0 9 rfl
theorem dX12_passes_16 : decode cX12_passes 16 = .ok (.getfield 70, 3) := dk_at bX12_passes_0 10 rfl
theorem dX12_passes_19 : decode cX12_passes 19 = .ok (.bipush 8, 2) := dk_at bX12_passes_0 11 rfl
theorem dX12_passes_21 : decode cX12_passes 21 = .ok (.iload_n 1, 1) := dk_at bX12_passes_0 12 rfl
theorem dX12_passes_22 : decode cX12_passes 22 = .ok (.imul, 1) := dk_at bX12_passes_0 13 rfl
theorem dX12_passes_23 : decode cX12_passes 23 = .ok (.aload_n 0, 1) := dk_at bX12_passes_0 14 rfl
theorem dX12_passes_24 : decode cX12_passes 24 = .ok (.getfield 73, 3) := dk_at bX12_passes_0 15 rfl
theorem dX12_passes_27 : decode cX12_passes 27 = .ok (.iload_n 1, 1) := dk_at bX12_passes_0 16 rfl
theorem dX12_passes_28 : decode cX12_passes 28 = .ok (.iaload, 1) := dk_at bX12_passes_0 17 rfl
theorem dX12_passes_29 : decode cX12_passes 29 = .ok (.iadd, 1) := dk_at bX12_passes_0 18 rfl
theorem dX12_passes_30 : decode cX12_passes 30 = .ok (.iaload, 1) := dk_at bX12_passes_0 19 rfl
theorem dX12_passes_31 : decode cX12_passes 31 = .ok (.aload_n 0, 1) := dk_at bX12_passes_0 20 rfl
theorem dX12_passes_32 : decode cX12_passes 32 = .ok (.getfield 82, 3) := dk_at bX12_passes_0 21 rfl
theorem dX12_passes_35 : decode cX12_passes 35 = .ok (.iload_n 1, 1) := dk_at bX12_passes_0 22 rfl
theorem dX12_passes_36 : decode cX12_passes 36 = .ok (.iaload, 1) := dk_at bX12_passes_0 23 rfl
theorem dX12_passes_37 : decode cX12_passes 37 = .ok (.if_icmp .ne 16, 3) := dk_at bX12_passes_0 24 rfl
theorem dX12_passes_40 : decode cX12_passes 40 = .ok (.aload_n 0, 1) := dk_at bX12_passes_0 25 rfl
theorem dX12_passes_41 : decode cX12_passes 41 = .ok (.getfield 73, 3) := dk_at bX12_passes_0 26 rfl
theorem dX12_passes_44 : decode cX12_passes 44 = .ok (.iload_n 1, 1) := dk_at bX12_passes_0 27 rfl
theorem dX12_passes_45 : decode cX12_passes 45 = .ok (.dup2, 1) := dk_at bX12_passes_0 28 rfl
theorem dX12_passes_46 : decode cX12_passes 46 = .ok (.iaload, 1) := dk_at bX12_passes_0 29 rfl
theorem dX12_passes_47 : decode cX12_passes 47 = .ok (.iconst 1, 1) := dk_at bX12_passes_0 30 rfl
theorem dX12_passes_48 : decode cX12_passes 48 = .ok (.iadd, 1) := dk_at bX12_passes_0 31 rfl
theorem dX12_passes_49 : decode cX12_passes 49 = .ok (.iastore, 1) := dk_at bX12_passes_0 32 rfl
theorem dX12_passes_50 : decode cX12_passes 50 = .ok (.goto (-50), 3) := dk_at bX12_passes_0 33 rfl
theorem dX12_passes_53 : decode cX12_passes 53 = .ok (.aload_n 0, 1) := dk_at bX12_passes_0 34 rfl
theorem dX12_passes_54 : decode cX12_passes 54 = .ok (.getfield 73, 3) := dk_at bX12_passes_0 35 rfl
theorem dX12_passes_57 : decode cX12_passes 57 = .ok (.iload_n 1, 1) := dk_at bX12_passes_0 36 rfl
theorem dX12_passes_58 : decode cX12_passes 58 = .ok (.iaload, 1) := dk_at bX12_passes_0 37 rfl
theorem dX12_passes_59 : decode cX12_passes 59 = .ok (.aload_n 0, 1) := dk_at bX12_passes_0 38 rfl
theorem dX12_passes_60 : decode cX12_passes 60 = .ok (.getfield 76, 3) := dk_at bX12_passes_0 39 rfl
theorem bX12_passes_63 : dk cX12_passes [(63, .iload_n 1, 1), (64, .iaload, 1), (65, .if_icmp .ge 5, 3), (68, .iconst 0, 1), (69, .ireturn, 1), (70, .aload_n 0, 1), (71, .getfield 58, 3), (74, .iload_n 1, 1), (75, .iconst 1, 1), (76, .iastore, 1), (77, .aload_n 0, 1), (78, .getfield 85, 3), (81, .iload_n 1, 1), (82, .iconst 0, 1), (83, .iastore, 1), (84, .iconst 1, 1), (85, .ireturn, 1)] = true := by decide +kernel
theorem dX12_passes_63 : decode cX12_passes 63 = .ok (.iload_n 1, 1) := dk_at bX12_passes_63 0 rfl
theorem dX12_passes_64 : decode cX12_passes 64 = .ok (.iaload, 1) := dk_at bX12_passes_63 1 rfl
theorem dX12_passes_65 : decode cX12_passes 65 = .ok (.if_icmp .ge 5, 3) := dk_at bX12_passes_63 2 rfl
theorem dX12_passes_68 : decode cX12_passes 68 = .ok (.iconst 0, 1) := dk_at bX12_passes_63 3 rfl
theorem dX12_passes_69 : decode cX12_passes 69 = .ok (.ireturn, 1) := dk_at bX12_passes_63 4 rfl
theorem dX12_passes_70 : decode cX12_passes 70 = .ok (.aload_n 0, 1) := dk_at bX12_passes_63 5 rfl
theorem dX12_passes_71 : decode cX12_passes 71 = .ok (.getfield 58, 3) := dk_at bX12_passes_63 6 rfl
theorem dX12_passes_74 : decode cX12_passes 74 = .ok (.iload_n 1, 1) := dk_at bX12_passes_63 7 rfl
theorem dX12_passes_75 : decode cX12_passes 75 = .ok (.iconst 1, 1) := dk_at bX12_passes_63 8 rfl
theorem dX12_passes_76 : decode cX12_passes 76 = .ok (.iastore, 1) := dk_at bX12_passes_63 9 rfl
theorem dX12_passes_77 : decode cX12_passes 77 = .ok (.aload_n 0, 1) := dk_at bX12_passes_63 10 rfl
theorem dX12_passes_78 : decode cX12_passes 78 = .ok (.getfield 85, 3) := dk_at bX12_passes_63 11 rfl
theorem dX12_passes_81 : decode cX12_passes 81 = .ok (.iload_n 1, 1) := dk_at bX12_passes_63 12 rfl
theorem dX12_passes_82 : decode cX12_passes 82 = .ok (.iconst 0, 1) := dk_at bX12_passes_63 13 rfl
theorem dX12_passes_83 : decode cX12_passes 83 = .ok (.iastore, 1) := dk_at bX12_passes_63 14 rfl
theorem dX12_passes_84 : decode cX12_passes 84 = .ok (.iconst 1, 1) := dk_at bX12_passes_63 15 rfl
theorem dX12_passes_85 : decode cX12_passes 85 = .ok (.ireturn, 1) := dk_at bX12_passes_63 16 rfl
theorem bX12_sign_0 : dk cX12_sign [(0, .iload_n 0, 1), (1, .ifCond .le 7, 3), (4, .iconst 1, 1), (5, .goto 12, 3), (8, .iload_n 0, 1), (9, .ifCond .ge 7, 3), (12, .iconst (-1), 1), (13, .goto 4, 3), (16, .iconst 0, 1), (17, .ireturn, 1)] = true := by decide +kernel
theorem dX12_sign_0 : decode cX12_sign 0 = .ok (.iload_n 0, 1) := dk_at bX12_sign_0 0 rfl
theorem dX12_sign_1 : decode cX12_sign 1 = .ok (.ifCond .le 7, 3) := dk_at bX12_sign_0 1 rfl
theorem dX12_sign_4 : decode cX12_sign 4 = .ok (.iconst 1, 1) := dk_at bX12_sign_0 2 rfl
theorem dX12_sign_5 : decode cX12_sign 5 = .ok (.goto 12, 3) := dk_at bX12_sign_0 3 rfl
theorem dX12_sign_8 : decode cX12_sign 8 = .ok (.iload_n 0, 1) := dk_at bX12_sign_0 4 rfl
theorem dX12_sign_9 : decode cX12_sign 9 = .ok (.ifCond .ge 7, 3) := dk_at bX12_sign_0 5 rfl
theorem dX12_sign_12 : decode cX12_sign 12 = .ok (.iconst (-1), 1) := dk_at bX12_sign_0 6 rfl
theorem dX12_sign_13 : decode cX12_sign 13 = .ok (.goto 4, 3) := dk_at bX12_sign_0 7 rfl
theorem dX12_sign_16 : decode cX12_sign 16 = .ok (.iconst 0, 1) := dk_at bX12_sign_0 8 rfl
theorem dX12_sign_17 : decode cX12_sign 17 = .ok (.ireturn, 1) := dk_at bX12_sign_0 9 rfl
set_option maxRecDepth 20000 in
theorem ggX12_eastOf_X12_sign : GoodIn wsX12_eastOf wsX12_sign := goodIn_r _ [7] rfl (by decide +kernel)
set_option maxRecDepth 20000 in
theorem gX12_eastOf_X12_sign : GoodIn wsX12_eastOf (va_wsS RX12 255 yX12_sign wsX12_sign) := goodIn_app (goodIn_r _ [4, 5, 6] rfl (by decide +kernel)) ggX12_eastOf_X12_sign
theorem bX12_eastOf_0 : dk cX12_eastOf [(0, .aload_n 0, 1), (1, .getfield 70, 3), (4, .bipush 8, 2), (6, .iload_n 1, 1), (7, .imul, 1), (8, .aload_n 0, 1), (9, .getfield 73, 3), (12, .iload_n 1, 1), (13, .iaload, 1), (14, .iadd, 1), (15, .iaload, 1), (16, .bipush 100, 2), (18, .idiv, 1), (19, .aload_n 0, 1), (20, .getfield 82, 3), (23, .iload_n 1, 1), (24, .iaload, 1), (25, .bipush 100, 2), (27, .idiv, 1), (28, .isub, 1), (29, .invokestatic 255, 3), (32, .ireturn, 1)] = true := by decide +kernel
theorem dX12_eastOf_0 : decode cX12_eastOf 0 = .ok (.aload_n 0, 1) := dk_at bX12_eastOf_0 0 rfl
theorem dX12_eastOf_1 : decode cX12_eastOf 1 = .ok (.getfield 70, 3) := dk_at bX12_eastOf_0 1 rfl
theorem dX12_eastOf_4 : decode cX12_eastOf 4 = .ok (.bipush 8, 2) := dk_at bX12_eastOf_0 2 rfl
theorem dX12_eastOf_6 : decode cX12_eastOf 6 = .ok (.iload_n 1, 1) := dk_at bX12_eastOf_0 3 rfl
theorem dX12_eastOf_7 : decode cX12_eastOf 7 = .ok (.imul, 1) := dk_at bX12_eastOf_0 4 rfl
theorem dX12_eastOf_8 : decode cX12_eastOf 8 = .ok (.aload_n 0, 1) := dk_at bX12_eastOf_0 5 rfl
theorem dX12_eastOf_9 : decode cX12_eastOf 9 = .ok (.getfield 73, 3) := dk_at bX12_eastOf_0 6 rfl
theorem dX12_eastOf_12 : decode cX12_eastOf 12 = .ok (.iload_n 1, 1) := dk_at bX12_eastOf_0 7 rfl
theorem dX12_eastOf_13 : decode cX12_eastOf 13 = .ok (.iaload, 1) := dk_at bX12_eastOf_0 8 rfl
theorem dX12_eastOf_14 : decode cX12_eastOf 14 = .ok (.iadd, 1) := dk_at bX12_eastOf_0 9 rfl
theorem dX12_eastOf_15 : decode cX12_eastOf 15 = .ok (.iaload, 1) := dk_at bX12_eastOf_0 10 rfl
theorem dX12_eastOf_16 : decode cX12_eastOf 16 = .ok (.bipush 100, 2) := dk_at bX12_eastOf_0 11 rfl
theorem dX12_eastOf_18 : decode cX12_eastOf 18 = .ok (.idiv, 1) := dk_at bX12_eastOf_0 12 rfl
theorem dX12_eastOf_19 : decode cX12_eastOf 19 = .ok (.aload_n 0, 1) := dk_at bX12_eastOf_0 13 rfl
theorem dX12_eastOf_20 : decode cX12_eastOf 20 = .ok (.getfield 82, 3) := dk_at bX12_eastOf_0 14 rfl
theorem dX12_eastOf_23 : decode cX12_eastOf 23 = .ok (.iload_n 1, 1) := dk_at bX12_eastOf_0 15 rfl
theorem dX12_eastOf_24 : decode cX12_eastOf 24 = .ok (.iaload, 1) := dk_at bX12_eastOf_0 16 rfl
theorem dX12_eastOf_25 : decode cX12_eastOf 25 = .ok (.bipush 100, 2) := dk_at bX12_eastOf_0 17 rfl
theorem dX12_eastOf_27 : decode cX12_eastOf 27 = .ok (.idiv, 1) := dk_at bX12_eastOf_0 18 rfl
theorem dX12_eastOf_28 : decode cX12_eastOf 28 = .ok (.isub, 1) := dk_at bX12_eastOf_0 19 rfl
theorem dX12_eastOf_29 : decode cX12_eastOf 29 = .ok (.invokestatic 255, 3) := dk_at bX12_eastOf_0 20 rfl
theorem dX12_eastOf_32 : decode cX12_eastOf 32 = .ok (.ireturn, 1) := dk_at bX12_eastOf_0 21 rfl
set_option maxRecDepth 20000 in
theorem ggX12_southOf_X12_sign : GoodIn wsX12_southOf wsX12_sign := goodIn_r _ [7] rfl (by decide +kernel)
set_option maxRecDepth 20000 in
theorem gX12_southOf_X12_sign : GoodIn wsX12_southOf (va_wsS RX12 255 yX12_sign wsX12_sign) := goodIn_app (goodIn_r _ [4, 5, 6] rfl (by decide +kernel)) ggX12_southOf_X12_sign
theorem bX12_southOf_0 : dk cX12_southOf [(0, .aload_n 0, 1), (1, .getfield 70, 3), (4, .bipush 8, 2), (6, .iload_n 1, 1), (7, .imul, 1), (8, .aload_n 0, 1), (9, .getfield 73, 3), (12, .iload_n 1, 1), (13, .iaload, 1), (14, .iadd, 1), (15, .iaload, 1), (16, .bipush 100, 2), (18, .irem, 1), (19, .aload_n 0, 1), (20, .getfield 82, 3), (23, .iload_n 1, 1), (24, .iaload, 1), (25, .bipush 100, 2), (27, .irem, 1), (28, .isub, 1), (29, .invokestatic 255, 3), (32, .ireturn, 1)] = true := by decide +kernel
theorem dX12_southOf_0 : decode cX12_southOf 0 = .ok (.aload_n 0, 1) := dk_at bX12_southOf_0 0 rfl
theorem dX12_southOf_1 : decode cX12_southOf 1 = .ok (.getfield 70, 3) := dk_at bX12_southOf_0 1 rfl
theorem dX12_southOf_4 : decode cX12_southOf 4 = .ok (.bipush 8, 2) := dk_at bX12_southOf_0 2 rfl
theorem dX12_southOf_6 : decode cX12_southOf 6 = .ok (.iload_n 1, 1) := dk_at bX12_southOf_0 3 rfl
theorem dX12_southOf_7 : decode cX12_southOf 7 = .ok (.imul, 1) := dk_at bX12_southOf_0 4 rfl
theorem dX12_southOf_8 : decode cX12_southOf 8 = .ok (.aload_n 0, 1) := dk_at bX12_southOf_0 5 rfl
theorem dX12_southOf_9 : decode cX12_southOf 9 = .ok (.getfield 73, 3) := dk_at bX12_southOf_0 6 rfl
theorem dX12_southOf_12 : decode cX12_southOf 12 = .ok (.iload_n 1, 1) := dk_at bX12_southOf_0 7 rfl
theorem dX12_southOf_13 : decode cX12_southOf 13 = .ok (.iaload, 1) := dk_at bX12_southOf_0 8 rfl
theorem dX12_southOf_14 : decode cX12_southOf 14 = .ok (.iadd, 1) := dk_at bX12_southOf_0 9 rfl
theorem dX12_southOf_15 : decode cX12_southOf 15 = .ok (.iaload, 1) := dk_at bX12_southOf_0 10 rfl
theorem dX12_southOf_16 : decode cX12_southOf 16 = .ok (.bipush 100, 2) := dk_at bX12_southOf_0 11 rfl
theorem dX12_southOf_18 : decode cX12_southOf 18 = .ok (.irem, 1) := dk_at bX12_southOf_0 12 rfl
theorem dX12_southOf_19 : decode cX12_southOf 19 = .ok (.aload_n 0, 1) := dk_at bX12_southOf_0 13 rfl
theorem dX12_southOf_20 : decode cX12_southOf 20 = .ok (.getfield 82, 3) := dk_at bX12_southOf_0 14 rfl
theorem dX12_southOf_23 : decode cX12_southOf 23 = .ok (.iload_n 1, 1) := dk_at bX12_southOf_0 15 rfl
theorem dX12_southOf_24 : decode cX12_southOf 24 = .ok (.iaload, 1) := dk_at bX12_southOf_0 16 rfl
theorem dX12_southOf_25 : decode cX12_southOf 25 = .ok (.bipush 100, 2) := dk_at bX12_southOf_0 17 rfl
theorem dX12_southOf_27 : decode cX12_southOf 27 = .ok (.irem, 1) := dk_at bX12_southOf_0 18 rfl
theorem dX12_southOf_28 : decode cX12_southOf 28 = .ok (.isub, 1) := dk_at bX12_southOf_0 19 rfl
theorem dX12_southOf_29 : decode cX12_southOf 29 = .ok (.invokestatic 255, 3) := dk_at bX12_southOf_0 20 rfl
theorem dX12_southOf_32 : decode cX12_southOf 32 = .ok (.ireturn, 1) := dk_at bX12_southOf_0 21 rfl
set_option maxRecDepth 20000 in
theorem ggX12_courseOf_X12_eastOf : GoodIn wsX12_courseOf wsX12_eastOf := goodIn_r _ [5, 6, 7, 8, 9, 10, 4, 11, 16, 17, 18, 19, 20, 21, 22, 23, 24, 25, 26, 27, 28, 29, 30, 31, 32, 33, 34, 35, 36, 37, 38, 39, 40, 41, 42, 43, 44, 45, 46, 47, 48, 49, 50, 51, 52, 53, 54, 55, 56, 57, 58, 59, 60, 61, 62, 63, 64, 65, 66, 67, 68, 69, 70, 71, 72, 73, 74] rfl (by decide +kernel)
set_option maxRecDepth 20000 in
theorem gX12_courseOf_X12_eastOf : GoodIn wsX12_courseOf (wsV RX12 258 RX12 yX12_eastOf wsX12_eastOf) := goodIn_app (goodIn_r _ [1, 2, 3, 4] rfl (by decide +kernel)) ggX12_courseOf_X12_eastOf
set_option maxRecDepth 20000 in
theorem ggX12_courseOf_X12_southOf : GoodIn wsX12_courseOf wsX12_southOf := goodIn_r _ [15, 6, 7, 8, 9, 10, 4, 11, 16, 17, 18, 19, 20, 21, 22, 23, 24, 25, 26, 27, 28, 29, 30, 31, 32, 33, 34, 35, 36, 37, 38, 39, 40, 41, 42, 43, 44, 45, 46, 47, 48, 49, 50, 51, 52, 53, 54, 55, 56, 57, 58, 59, 60, 61, 62, 63, 64, 65, 66, 67, 68, 69, 70, 71, 72, 73, 74] rfl (by decide +kernel)
set_option maxRecDepth 20000 in
theorem gX12_courseOf_X12_southOf : GoodIn wsX12_courseOf (wsV RX12 261 RX12 yX12_southOf wsX12_southOf) := goodIn_app (goodIn_r _ [12, 13, 14, 4] rfl (by decide +kernel)) ggX12_courseOf_X12_southOf
theorem bX12_courseOf_0 : dk cX12_courseOf [(0, .aload_n 0, 1), (1, .iload_n 1, 1), (2, .invokevirtual 258, 3), (5, .istore_n 2, 1), (6, .aload_n 0, 1), (7, .iload_n 1, 1), (8, .invokevirtual 261, 3), (11, .istore_n 3, 1), (12, .iload_n 3, 1), (13, .ifCond .ge 22, 3), (16, .iload_n 2, 1), (17, .ifCond .ge 8, 3), (20, .bipush 7, 2), (22, .goto 12, 3), (25, .iload_n 2, 1), (26, .ifCond .le 7, 3), (29, .iconst 1, 1), (30, .goto 4, 3), (33, .iconst 0, 1), (34, .ireturn, 1), (35, .iload_n 3, 1), (36, .ifCond .le 21, 3), (39, .iload_n 2, 1), (40, .ifCond .ge 7, 3), (43, .iconst 5, 1), (44, .goto 12, 3), (47, .iload_n 2, 1), (48, .ifCond .le 7, 3), (51, .iconst 3, 1), (52, .goto 4, 3), (55, .iconst 4, 1), (56, .ireturn, 1), (57, .iload_n 2, 1), (58, .ifCond .le 7, 3), (61, .iconst 2, 1), (62, .goto 5, 3), (65, .bipush 6, 2), (67, .ireturn, 1)] = true := by decide +kernel
theorem dX12_courseOf_0 : decode cX12_courseOf 0 = .ok (.aload_n 0, 1) := dk_at bX12_courseOf_0 0 rfl
theorem dX12_courseOf_1 : decode cX12_courseOf 1 = .ok (.iload_n 1, 1) := dk_at bX12_courseOf_0 1 rfl
theorem dX12_courseOf_2 : decode cX12_courseOf 2 = .ok (.invokevirtual 258, 3) := dk_at bX12_courseOf_0 2 rfl
theorem dX12_courseOf_5 : decode cX12_courseOf 5 = .ok (.istore_n 2, 1) := dk_at bX12_courseOf_0 3 rfl
theorem dX12_courseOf_6 : decode cX12_courseOf 6 = .ok (.aload_n 0, 1) := dk_at bX12_courseOf_0 4 rfl
theorem dX12_courseOf_7 : decode cX12_courseOf 7 = .ok (.iload_n 1, 1) := dk_at bX12_courseOf_0 5 rfl
theorem dX12_courseOf_8 : decode cX12_courseOf 8 = .ok (.invokevirtual 261, 3) := dk_at bX12_courseOf_0 6 rfl
theorem dX12_courseOf_11 : decode cX12_courseOf 11 = .ok (.istore_n 3, 1) := dk_at bX12_courseOf_0 7 rfl
theorem dX12_courseOf_12 : decode cX12_courseOf 12 = .ok (.iload_n 3, 1) := dk_at bX12_courseOf_0 8 rfl
theorem dX12_courseOf_13 : decode cX12_courseOf 13 = .ok (.ifCond .ge 22, 3) := dk_at bX12_courseOf_0 9 rfl
theorem dX12_courseOf_16 : decode cX12_courseOf 16 = .ok (.iload_n 2, 1) := dk_at bX12_courseOf_0 10 rfl
theorem dX12_courseOf_17 : decode cX12_courseOf 17 = .ok (.ifCond .ge 8, 3) := dk_at bX12_courseOf_0 11 rfl
theorem dX12_courseOf_20 : decode cX12_courseOf 20 = .ok (.bipush 7, 2) := dk_at bX12_courseOf_0 12 rfl
theorem dX12_courseOf_22 : decode cX12_courseOf 22 = .ok (.goto 12, 3) := dk_at bX12_courseOf_0 13 rfl
theorem dX12_courseOf_25 : decode cX12_courseOf 25 = .ok (.iload_n 2, 1) := dk_at bX12_courseOf_0 14 rfl
theorem dX12_courseOf_26 : decode cX12_courseOf 26 = .ok (.ifCond .le 7, 3) := dk_at bX12_courseOf_0 15 rfl
theorem dX12_courseOf_29 : decode cX12_courseOf 29 = .ok (.iconst 1, 1) := dk_at bX12_courseOf_0 16 rfl
theorem dX12_courseOf_30 : decode cX12_courseOf 30 = .ok (.goto 4, 3) := dk_at bX12_courseOf_0 17 rfl
theorem dX12_courseOf_33 : decode cX12_courseOf 33 = .ok (.iconst 0, 1) := dk_at bX12_courseOf_0 18 rfl
theorem dX12_courseOf_34 : decode cX12_courseOf 34 = .ok (.ireturn, 1) := dk_at bX12_courseOf_0 19 rfl
theorem dX12_courseOf_35 : decode cX12_courseOf 35 = .ok (.iload_n 3, 1) := dk_at bX12_courseOf_0 20 rfl
theorem dX12_courseOf_36 : decode cX12_courseOf 36 = .ok (.ifCond .le 21, 3) := dk_at bX12_courseOf_0 21 rfl
theorem dX12_courseOf_39 : decode cX12_courseOf 39 = .ok (.iload_n 2, 1) := dk_at bX12_courseOf_0 22 rfl
theorem dX12_courseOf_40 : decode cX12_courseOf 40 = .ok (.ifCond .ge 7, 3) := dk_at bX12_courseOf_0 23 rfl
theorem dX12_courseOf_43 : decode cX12_courseOf 43 = .ok (.iconst 5, 1) := dk_at bX12_courseOf_0 24 rfl
theorem dX12_courseOf_44 : decode cX12_courseOf 44 = .ok (.goto 12, 3) := dk_at bX12_courseOf_0 25 rfl
theorem dX12_courseOf_47 : decode cX12_courseOf 47 = .ok (.iload_n 2, 1) := dk_at bX12_courseOf_0 26 rfl
theorem dX12_courseOf_48 : decode cX12_courseOf 48 = .ok (.ifCond .le 7, 3) := dk_at bX12_courseOf_0 27 rfl
theorem dX12_courseOf_51 : decode cX12_courseOf 51 = .ok (.iconst 3, 1) := dk_at bX12_courseOf_0 28 rfl
theorem dX12_courseOf_52 : decode cX12_courseOf 52 = .ok (.goto 4, 3) := dk_at bX12_courseOf_0 29 rfl
theorem dX12_courseOf_55 : decode cX12_courseOf 55 = .ok (.iconst 4, 1) := dk_at bX12_courseOf_0 30 rfl
theorem dX12_courseOf_56 : decode cX12_courseOf 56 = .ok (.ireturn, 1) := dk_at bX12_courseOf_0 31 rfl
theorem dX12_courseOf_57 : decode cX12_courseOf 57 = .ok (.iload_n 2, 1) := dk_at bX12_courseOf_0 32 rfl
theorem dX12_courseOf_58 : decode cX12_courseOf 58 = .ok (.ifCond .le 7, 3) := dk_at bX12_courseOf_0 33 rfl
theorem dX12_courseOf_61 : decode cX12_courseOf 61 = .ok (.iconst 2, 1) := dk_at bX12_courseOf_0 34 rfl
theorem dX12_courseOf_62 : decode cX12_courseOf 62 = .ok (.goto 5, 3) := dk_at bX12_courseOf_0 35 rfl
theorem dX12_courseOf_65 : decode cX12_courseOf 65 = .ok (.bipush 6, 2) := dk_at bX12_courseOf_0 36 rfl
theorem dX12_courseOf_67 : decode cX12_courseOf 67 = .ok (.ireturn, 1) := dk_at bX12_courseOf_0 37 rfl
set_option maxRecDepth 20000 in
theorem ggX12_moves_X12_passes : GoodIn wsX12_moves wsX12_passes := goodIn_r _ [11, 12, 13, 14, 5, 15, 2, 31, 32, 33, 34, 35, 36, 37, 38, 39, 40, 41, 42, 43, 44, 45, 46, 47, 48, 49, 50, 51, 52, 53, 54, 55, 56, 57, 58, 59, 60, 61, 62, 63, 64, 65, 66, 67, 68, 69, 70, 71, 72, 73, 74, 75, 76, 77, 78, 79, 80, 81, 82, 83, 84, 85, 86, 87, 88, 89] rfl (by decide +kernel)
set_option maxRecDepth 20000 in
theorem gX12_moves_X12_passes : GoodIn wsX12_moves (wsV RX12 264 RX12 yX12_passes wsX12_passes) := goodIn_app (goodIn_r _ [7, 8, 9, 10] rfl (by decide +kernel)) ggX12_moves_X12_passes
set_option maxRecDepth 20000 in
theorem ggX12_moves_X12_courseOf : GoodIn wsX12_moves wsX12_courseOf := goodIn_r _ [19, 20, 21, 22, 10, 23, 14, 12, 5, 24, 25, 26, 27, 28, 29, 30, 31, 32, 33, 34, 35, 36, 37, 38, 39, 40, 41, 42, 43, 44, 45, 46, 47, 48, 49, 50, 51, 52, 53, 54, 55, 56, 57, 58, 59, 60, 61, 62, 63, 64, 65, 66, 67, 68, 69, 70, 71, 72, 73, 74, 75, 76, 77, 78, 79, 80, 81, 82, 83, 84, 85, 86, 87, 88, 89] rfl (by decide +kernel)
set_option maxRecDepth 20000 in
theorem gX12_moves_X12_courseOf : GoodIn wsX12_moves (wsV RX12 267 RX12 yX12_courseOf wsX12_courseOf) := goodIn_app (goodIn_r _ [16, 17, 18, 10] rfl (by decide +kernel)) ggX12_moves_X12_courseOf
set_option maxRecDepth 20000 in
theorem ggX12_moves_X12_eastOf : GoodIn wsX12_moves wsX12_eastOf := goodIn_r _ [23, 14, 12, 5, 24, 25, 10, 26, 31, 32, 33, 34, 35, 36, 37, 38, 39, 40, 41, 42, 43, 44, 45, 46, 47, 48, 49, 50, 51, 52, 53, 54, 55, 56, 57, 58, 59, 60, 61, 62, 63, 64, 65, 66, 67, 68, 69, 70, 71, 72, 73, 74, 75, 76, 77, 78, 79, 80, 81, 82, 83, 84, 85, 86, 87, 88, 89] rfl (by decide +kernel)
set_option maxRecDepth 20000 in
theorem gX12_moves_X12_eastOf : GoodIn wsX12_moves (wsV RX12 258 RX12 yX12_eastOf wsX12_eastOf) := goodIn_app (goodIn_r _ [20, 21, 22, 10] rfl (by decide +kernel)) ggX12_moves_X12_eastOf
set_option maxRecDepth 20000 in
theorem ggX12_moves_X12_southOf : GoodIn wsX12_moves wsX12_southOf := goodIn_r _ [30, 14, 12, 5, 24, 25, 10, 26, 31, 32, 33, 34, 35, 36, 37, 38, 39, 40, 41, 42, 43, 44, 45, 46, 47, 48, 49, 50, 51, 52, 53, 54, 55, 56, 57, 58, 59, 60, 61, 62, 63, 64, 65, 66, 67, 68, 69, 70, 71, 72, 73, 74, 75, 76, 77, 78, 79, 80, 81, 82, 83, 84, 85, 86, 87, 88, 89] rfl (by decide +kernel)
set_option maxRecDepth 20000 in
theorem gX12_moves_X12_southOf : GoodIn wsX12_moves (wsV RX12 261 RX12 yX12_southOf wsX12_southOf) := goodIn_app (goodIn_r _ [27, 28, 29, 10] rfl (by decide +kernel)) ggX12_moves_X12_southOf
theorem bX12_moves_0 : dk cX12_moves [(0, .aload_n 0, 1), (1, .iload_n 1, 1), (2, .invokevirtual 264, 3), (5, .ifCond .eq 4, 3), (8, .return_, 1), (9, .aload_n 0, 1), (10, .iload_n 1, 1), (11, .invokevirtual 267, 3), (14, .aload_n 0, 1), (15, .getfield 36, 3), (18, .iload_n 2, 1), (19, .iaload, 1), (20, .isub, 1), (21, .bipush 8, 2), (23, .iadd, 1), (24, .bipush 8, 2), (26, .irem, 1), (27, .istore_n 3, 1), (28, .iload_n 3, 1), (29, .iconst 4, 1), (30, .if_icmp .le 10, 3), (33, .bipush 8, 2), (35, .iload_n 3, 1), (36, .isub, 1), (37, .goto 4, 3), (40, .iload_n 3, 1), (41, .istore_n 3, 1), (42, .aload_n 0, 1), (43, .getfield 85, 3), (46, .iload_n 1, 1), (47, .dup2, 1), (48, .iaload, 1), (49, .aload_n 0, 1), (50, .getfield 45, 3), (53, .bipush 25, 2), (55, .iload_n 1, 1), (56, .imul, 1), (57, .iconst 5, 1), (58, .iload_n 3, 1), (59, .imul, 1)] = true := by decide +kernel
theorem dX12_moves_0 : decode cX12_moves 0 = .ok (.aload_n 0, 1) := dk_at bX12_moves_0 0 rfl
theorem dX12_moves_1 : decode cX12_moves 1 = .ok (.iload_n 1, 1) := dk_at bX12_moves_0 1 rfl
theorem dX12_moves_2 : decode cX12_moves 2 = .ok (.invokevirtual 264, 3) := dk_at bX12_moves_0 2 rfl
theorem dX12_moves_5 : decode cX12_moves 5 = .ok (.ifCond .eq 4, 3) := dk_at bX12_moves_0 3 rfl
theorem dX12_moves_8 : decode cX12_moves 8 = .ok (.return_, 1) := dk_at bX12_moves_0 4 rfl
theorem dX12_moves_9 : decode cX12_moves 9 = .ok (.aload_n 0, 1) := dk_at bX12_moves_0 5 rfl
theorem dX12_moves_10 : decode cX12_moves 10 = .ok (.iload_n 1, 1) := dk_at bX12_moves_0 6 rfl
theorem dX12_moves_11 : decode cX12_moves 11 = .ok (.invokevirtual 267, 3) := dk_at bX12_moves_0 7 rfl
theorem dX12_moves_14 : decode cX12_moves 14 = .ok (.aload_n 0, 1) := dk_at bX12_moves_0 8 rfl
theorem dX12_moves_15 : decode cX12_moves 15 = .ok (.getfield 36, 3) := dk_at bX12_moves_0 9 rfl
theorem dX12_moves_18 : decode cX12_moves 18 = .ok (.iload_n 2, 1) := dk_at bX12_moves_0 10 rfl
theorem dX12_moves_19 : decode cX12_moves 19 = .ok (.iaload, 1) := dk_at bX12_moves_0 11 rfl
theorem dX12_moves_20 : decode cX12_moves 20 = .ok (.isub, 1) := dk_at bX12_moves_0 12 rfl
theorem dX12_moves_21 : decode cX12_moves 21 = .ok (.bipush 8, 2) := dk_at bX12_moves_0 13 rfl
theorem dX12_moves_23 : decode cX12_moves 23 = .ok (.iadd, 1) := dk_at bX12_moves_0 14 rfl
theorem dX12_moves_24 : decode cX12_moves 24 = .ok (.bipush 8, 2) := dk_at bX12_moves_0 15 rfl
theorem dX12_moves_26 : decode cX12_moves 26 = .ok (.irem, 1) := dk_at bX12_moves_0 16 rfl
theorem dX12_moves_27 : decode cX12_moves 27 = .ok (.istore_n 3, 1) := dk_at bX12_moves_0 17 rfl
theorem dX12_moves_28 : decode cX12_moves 28 = .ok (.iload_n 3, 1) := dk_at bX12_moves_0 18 rfl
theorem dX12_moves_29 : decode cX12_moves 29 = .ok (.iconst 4, 1) := dk_at bX12_moves_0 19 rfl
theorem dX12_moves_30 : decode cX12_moves 30 = .ok (.if_icmp .le 10, 3) := dk_at bX12_moves_0 20 rfl
theorem dX12_moves_33 : decode cX12_moves 33 = .ok (.bipush 8, 2) := dk_at bX12_moves_0 21 rfl
theorem dX12_moves_35 : decode cX12_moves 35 = .ok (.iload_n 3, 1) := dk_at bX12_moves_0 22 rfl
theorem dX12_moves_36 : decode cX12_moves 36 = .ok (.isub, 1) := dk_at bX12_moves_0 23 rfl
theorem dX12_moves_37 : decode cX12_moves 37 = .ok (.goto 4, 3) := dk_at bX12_moves_0 24 rfl
theorem dX12_moves_40 : decode cX12_moves 40 = .ok (.iload_n 3, 1) := dk_at bX12_moves_0 25 rfl
theorem dX12_moves_41 : decode cX12_moves 41 = .ok (.istore_n 3, 1) := dk_at bX12_moves_0 26 rfl
theorem dX12_moves_42 : decode cX12_moves 42 = .ok (.aload_n 0, 1) := dk_at bX12_moves_0 27 rfl
theorem dX12_moves_43 : decode cX12_moves 43 = .ok (.getfield 85, 3) := dk_at bX12_moves_0 28 rfl
theorem dX12_moves_46 : decode cX12_moves 46 = .ok (.iload_n 1, 1) := dk_at bX12_moves_0 29 rfl
theorem dX12_moves_47 : decode cX12_moves 47 = .ok (.dup2, 1) := dk_at bX12_moves_0 30 rfl
theorem dX12_moves_48 : decode cX12_moves 48 = .ok (.iaload, 1) := dk_at bX12_moves_0 31 rfl
theorem dX12_moves_49 : decode cX12_moves 49 = .ok (.aload_n 0, 1) := dk_at bX12_moves_0 32 rfl
theorem dX12_moves_50 : decode cX12_moves 50 = .ok (.getfield 45, 3) := dk_at bX12_moves_0 33 rfl
theorem dX12_moves_53 : decode cX12_moves 53 = .ok (.bipush 25, 2) := dk_at bX12_moves_0 34 rfl
theorem dX12_moves_55 : decode cX12_moves 55 = .ok (.iload_n 1, 1) := dk_at bX12_moves_0 35 rfl
theorem dX12_moves_56 : decode cX12_moves 56 = .ok (.imul, 1) := dk_at bX12_moves_0 36 rfl
theorem dX12_moves_57 : decode cX12_moves 57 = .ok (.iconst 5, 1) := dk_at bX12_moves_0 37 rfl
theorem dX12_moves_58 : decode cX12_moves 58 = .ok (.iload_n 3, 1) := dk_at bX12_moves_0 38 rfl
theorem dX12_moves_59 : decode cX12_moves 59 = .ok (.imul, 1) := dk_at bX12_moves_0 39 rfl
theorem bX12_moves_60 : dk cX12_moves [(60, .iadd, 1), (61, .aload_n 0, 1), (62, .getfield 39, 3), (65, .iload_n 2, 1), (66, .iaload, 1), (67, .iconst 2, 1), (68, .idiv, 1), (69, .iadd, 1), (70, .iaload, 1), (71, .iadd, 1), (72, .iastore, 1), (73, .aload_n 0, 1), (74, .getfield 85, 3), (77, .iload_n 1, 1), (78, .iaload, 1), (79, .bipush 9, 2), (81, .if_icmp .le 56, 3), (84, .aload_n 0, 1), (85, .getfield 82, 3), (88, .iload_n 1, 1), (89, .dup2, 1), (90, .iaload, 1), (91, .bipush 100, 2), (93, .aload_n 0, 1), (94, .iload_n 1, 1), (95, .invokevirtual 258, 3), (98, .imul, 1), (99, .aload_n 0, 1), (100, .iload_n 1, 1), (101, .invokevirtual 261, 3), (104, .iadd, 1), (105, .iadd, 1), (106, .iastore, 1), (107, .aload_n 0, 1), (108, .getfield 91, 3), (111, .iload_n 1, 1), (112, .dup2, 1), (113, .iaload, 1), (114, .iconst 1, 1), (115, .iadd, 1)] = true := by decide +kernel
theorem dX12_moves_60 : decode cX12_moves 60 = .ok (.iadd, 1) := dk_at bX12_moves_60 0 rfl
theorem dX12_moves_61 : decode cX12_moves 61 = .ok (.aload_n 0, 1) := dk_at bX12_moves_60 1 rfl
theorem dX12_moves_62 : decode cX12_moves 62 = .ok (.getfield 39, 3) := dk_at bX12_moves_60 2 rfl
theorem dX12_moves_65 : decode cX12_moves 65 = .ok (.iload_n 2, 1) := dk_at bX12_moves_60 3 rfl
theorem dX12_moves_66 : decode cX12_moves 66 = .ok (.iaload, 1) := dk_at bX12_moves_60 4 rfl
theorem dX12_moves_67 : decode cX12_moves 67 = .ok (.iconst 2, 1) := dk_at bX12_moves_60 5 rfl
theorem dX12_moves_68 : decode cX12_moves 68 = .ok (.idiv, 1) := dk_at bX12_moves_60 6 rfl
theorem dX12_moves_69 : decode cX12_moves 69 = .ok (.iadd, 1) := dk_at bX12_moves_60 7 rfl
theorem dX12_moves_70 : decode cX12_moves 70 = .ok (.iaload, 1) := dk_at bX12_moves_60 8 rfl
theorem dX12_moves_71 : decode cX12_moves 71 = .ok (.iadd, 1) := dk_at bX12_moves_60 9 rfl
theorem dX12_moves_72 : decode cX12_moves 72 = .ok (.iastore, 1) := dk_at bX12_moves_60 10 rfl
theorem dX12_moves_73 : decode cX12_moves 73 = .ok (.aload_n 0, 1) := dk_at bX12_moves_60 11 rfl
theorem dX12_moves_74 : decode cX12_moves 74 = .ok (.getfield 85, 3) := dk_at bX12_moves_60 12 rfl
theorem dX12_moves_77 : decode cX12_moves 77 = .ok (.iload_n 1, 1) := dk_at bX12_moves_60 13 rfl
theorem dX12_moves_78 : decode cX12_moves 78 = .ok (.iaload, 1) := dk_at bX12_moves_60 14 rfl
theorem dX12_moves_79 : decode cX12_moves 79 = .ok (.bipush 9, 2) := dk_at bX12_moves_60 15 rfl
theorem dX12_moves_81 : decode cX12_moves 81 = .ok (.if_icmp .le 56, 3) := dk_at bX12_moves_60 16 rfl
theorem dX12_moves_84 : decode cX12_moves 84 = .ok (.aload_n 0, 1) := dk_at bX12_moves_60 17 rfl
theorem dX12_moves_85 : decode cX12_moves 85 = .ok (.getfield 82, 3) := dk_at bX12_moves_60 18 rfl
theorem dX12_moves_88 : decode cX12_moves 88 = .ok (.iload_n 1, 1) := dk_at bX12_moves_60 19 rfl
theorem dX12_moves_89 : decode cX12_moves 89 = .ok (.dup2, 1) := dk_at bX12_moves_60 20 rfl
theorem dX12_moves_90 : decode cX12_moves 90 = .ok (.iaload, 1) := dk_at bX12_moves_60 21 rfl
theorem dX12_moves_91 : decode cX12_moves 91 = .ok (.bipush 100, 2) := dk_at bX12_moves_60 22 rfl
theorem dX12_moves_93 : decode cX12_moves 93 = .ok (.aload_n 0, 1) := dk_at bX12_moves_60 23 rfl
theorem dX12_moves_94 : decode cX12_moves 94 = .ok (.iload_n 1, 1) := dk_at bX12_moves_60 24 rfl
theorem dX12_moves_95 : decode cX12_moves 95 = .ok (.invokevirtual 258, 3) := dk_at bX12_moves_60 25 rfl
theorem dX12_moves_98 : decode cX12_moves 98 = .ok (.imul, 1) := dk_at bX12_moves_60 26 rfl
theorem dX12_moves_99 : decode cX12_moves 99 = .ok (.aload_n 0, 1) := dk_at bX12_moves_60 27 rfl
theorem dX12_moves_100 : decode cX12_moves 100 = .ok (.iload_n 1, 1) := dk_at bX12_moves_60 28 rfl
theorem dX12_moves_101 : decode cX12_moves 101 = .ok (.invokevirtual 261, 3) := dk_at bX12_moves_60 29 rfl
theorem dX12_moves_104 : decode cX12_moves 104 = .ok (.iadd, 1) := dk_at bX12_moves_60 30 rfl
theorem dX12_moves_105 : decode cX12_moves 105 = .ok (.iadd, 1) := dk_at bX12_moves_60 31 rfl
theorem dX12_moves_106 : decode cX12_moves 106 = .ok (.iastore, 1) := dk_at bX12_moves_60 32 rfl
theorem dX12_moves_107 : decode cX12_moves 107 = .ok (.aload_n 0, 1) := dk_at bX12_moves_60 33 rfl
theorem dX12_moves_108 : decode cX12_moves 108 = .ok (.getfield 91, 3) := dk_at bX12_moves_60 34 rfl
theorem dX12_moves_111 : decode cX12_moves 111 = .ok (.iload_n 1, 1) := dk_at bX12_moves_60 35 rfl
theorem dX12_moves_112 : decode cX12_moves 112 = .ok (.dup2, 1) := dk_at bX12_moves_60 36 rfl
theorem dX12_moves_113 : decode cX12_moves 113 = .ok (.iaload, 1) := dk_at bX12_moves_60 37 rfl
theorem dX12_moves_114 : decode cX12_moves 114 = .ok (.iconst 1, 1) := dk_at bX12_moves_60 38 rfl
theorem dX12_moves_115 : decode cX12_moves 115 = .ok (.iadd, 1) := dk_at bX12_moves_60 39 rfl
theorem bX12_moves_116 : dk cX12_moves [(116, .iastore, 1), (117, .aload_n 0, 1), (118, .getfield 85, 3), (121, .iload_n 1, 1), (122, .dup2, 1), (123, .iaload, 1), (124, .bipush 10, 2), (126, .isub, 1), (127, .iastore, 1), (128, .aload_n 0, 1), (129, .iload_n 1, 1), (130, .invokevirtual 264, 3), (133, .ifCond .eq (-60), 3), (136, .return_, 1), (137, .return_, 1)] = true := by decide +kernel
theorem dX12_moves_116 : decode cX12_moves 116 = .ok (.iastore, 1) := dk_at bX12_moves_116 0 rfl
theorem dX12_moves_117 : decode cX12_moves 117 = .ok (.aload_n 0, 1) := dk_at bX12_moves_116 1 rfl
theorem dX12_moves_118 : decode cX12_moves 118 = .ok (.getfield 85, 3) := dk_at bX12_moves_116 2 rfl
theorem dX12_moves_121 : decode cX12_moves 121 = .ok (.iload_n 1, 1) := dk_at bX12_moves_116 3 rfl
theorem dX12_moves_122 : decode cX12_moves 122 = .ok (.dup2, 1) := dk_at bX12_moves_116 4 rfl
theorem dX12_moves_123 : decode cX12_moves 123 = .ok (.iaload, 1) := dk_at bX12_moves_116 5 rfl
theorem dX12_moves_124 : decode cX12_moves 124 = .ok (.bipush 10, 2) := dk_at bX12_moves_116 6 rfl
theorem dX12_moves_126 : decode cX12_moves 126 = .ok (.isub, 1) := dk_at bX12_moves_116 7 rfl
theorem dX12_moves_127 : decode cX12_moves 127 = .ok (.iastore, 1) := dk_at bX12_moves_116 8 rfl
theorem dX12_moves_128 : decode cX12_moves 128 = .ok (.aload_n 0, 1) := dk_at bX12_moves_116 9 rfl
theorem dX12_moves_129 : decode cX12_moves 129 = .ok (.iload_n 1, 1) := dk_at bX12_moves_116 10 rfl
theorem dX12_moves_130 : decode cX12_moves 130 = .ok (.invokevirtual 264, 3) := dk_at bX12_moves_116 11 rfl
theorem dX12_moves_133 : decode cX12_moves 133 = .ok (.ifCond .eq (-60), 3) := dk_at bX12_moves_116 12 rfl
theorem dX12_moves_136 : decode cX12_moves 136 = .ok (.return_, 1) := dk_at bX12_moves_116 13 rfl
theorem dX12_moves_137 : decode cX12_moves 137 = .ok (.return_, 1) := dk_at bX12_moves_116 14 rfl
set_option maxRecDepth 20000 in
theorem ggX12_watch_X12_weather : GoodIn wsX12_watch wsX12_weather := goodIn_r _ [23, 24, 25, 22, 26, 27, 28, 29] rfl (by decide +kernel)
set_option maxRecDepth 20000 in
theorem gX12_watch_X12_weather : GoodIn wsX12_watch (wsV RX12 270 RX12 yX12_weather wsX12_weather) := goodIn_app (goodIn_r _ [19, 20, 21, 22] rfl (by decide +kernel)) ggX12_watch_X12_weather
set_option maxRecDepth 20000 in
theorem ggX12_watch_X12_acts : GoodIn wsX12_watch wsX12_acts := goodIn_r _ [33, 34, 35, 15, 2, 36, 37, 38, 22, 39, 17, 81, 82, 83, 84, 85, 86, 87, 88, 89, 90, 91, 92, 93, 94, 95, 96, 97, 98, 99, 100, 101, 102, 103, 104, 105, 106, 107, 108, 109, 110, 111, 112, 113, 114, 115, 116, 117, 118, 119, 120, 121, 122, 123, 124, 125, 126, 127, 128, 129, 130, 131, 132, 133, 134, 135, 136, 137, 138, 139] rfl (by decide +kernel)
set_option maxRecDepth 20000 in
theorem gX12_watch_X12_acts : GoodIn wsX12_watch (wsV RX12 273 RX12 yX12_acts wsX12_acts) := goodIn_app (goodIn_r _ [30, 31, 32, 22] rfl (by decide +kernel)) ggX12_watch_X12_acts
set_option maxRecDepth 20000 in
theorem ggX12_watch_X12_isCovered : GoodIn wsX12_watch wsX12_isCovered := goodIn_r _ [43, 44, 45, 46, 47, 48, 49, 22, 50, 51, 52, 53, 81, 82, 83, 84, 85, 86, 87, 88, 89, 90, 91, 92, 93, 94, 95, 96, 97, 98, 99, 100, 101, 102, 103, 104, 105, 106, 107, 108, 109, 110, 111, 112, 113, 114, 115, 116, 117, 118, 119, 120, 121, 122, 123, 124, 125, 126, 127, 128, 129, 130, 131, 132, 133, 134, 135, 136, 137, 138, 139] rfl (by decide +kernel)
set_option maxRecDepth 20000 in
theorem gX12_watch_X12_isCovered : GoodIn wsX12_watch (wsV RX12 248 RX12 yX12_isCovered wsX12_isCovered) := goodIn_app (goodIn_r _ [40, 41, 42, 22] rfl (by decide +kernel)) ggX12_watch_X12_isCovered
set_option maxRecDepth 20000 in
theorem ggX12_watch_X12_moves : GoodIn wsX12_watch wsX12_moves := goodIn_r _ [57, 58, 59, 60, 4, 3, 61, 62, 63, 64, 22, 65, 12, 13, 10, 5, 66, 67, 68, 69, 70, 71, 72, 73, 74, 75, 76, 77, 78, 79, 80, 81, 82, 83, 84, 85, 86, 87, 88, 89, 90, 91, 92, 93, 94, 95, 96, 97, 98, 99, 100, 101, 102, 103, 104, 105, 106, 107, 108, 109, 110, 111, 112, 113, 114, 115, 116, 117, 118, 119, 120, 121, 122, 123, 124, 125, 126, 127, 128, 129, 130, 131, 132, 133, 134, 135, 136, 137, 138, 139] rfl (by decide +kernel)
set_option maxRecDepth 20000 in
theorem gX12_watch_X12_moves : GoodIn wsX12_watch (wsV RX12 276 RX12 yX12_moves wsX12_moves) := goodIn_app (goodIn_r _ [54, 55, 56, 22] rfl (by decide +kernel)) ggX12_watch_X12_moves
theorem bX12_watch_0 : dk cX12_watch [(0, .aload_n 0, 1), (1, .getfield 64, 3), (4, .iload_n 1, 1), (5, .iaload, 1), (6, .aload_n 0, 1), (7, .getfield 79, 3), (10, .iload_n 1, 1), (11, .iaload, 1), (12, .iconst 4, 1), (13, .idiv, 1), (14, .iadd, 1), (15, .istore_n 2, 1), (16, .aload_n 0, 1), (17, .aload_n 0, 1), (18, .getfield 82, 3), (21, .iload_n 1, 1), (22, .iaload, 1), (23, .iload_n 2, 1), (24, .invokevirtual 270, 3), (27, .istore_n 3, 1), (28, .aload_n 0, 1), (29, .iload_n 1, 1), (30, .aload_n 0, 1), (31, .getfield 39, 3), (34, .iload_n 3, 1), (35, .iaload, 1), (36, .invokevirtual 273, 3), (39, .istore 4, 2), (41, .iload 4, 2), (43, .iconst 2, 1), (44, .if_icmp .ne 12, 3), (47, .aload_n 0, 1), (48, .getfield 58, 3), (51, .iload_n 1, 1), (52, .iconst 2, 1), (53, .iastore, 1), (54, .iconst 0, 1), (55, .ireturn, 1), (56, .aload_n 0, 1), (57, .iload_n 1, 1)] = true := by decide +kernel
theorem dX12_watch_0 : decode cX12_watch 0 = .ok (.aload_n 0, 1) := dk_at bX12_watch_0 0 rfl
theorem dX12_watch_1 : decode cX12_watch 1 = .ok (.getfield 64, 3) := dk_at bX12_watch_0 1 rfl
theorem dX12_watch_4 : decode cX12_watch 4 = .ok (.iload_n 1, 1) := dk_at bX12_watch_0 2 rfl
theorem dX12_watch_5 : decode cX12_watch 5 = .ok (.iaload, 1) := dk_at bX12_watch_0 3 rfl
theorem dX12_watch_6 : decode cX12_watch 6 = .ok (.aload_n 0, 1) := dk_at bX12_watch_0 4 rfl
theorem dX12_watch_7 : decode cX12_watch 7 = .ok (.getfield 79, 3) := dk_at bX12_watch_0 5 rfl
theorem dX12_watch_10 : decode cX12_watch 10 = .ok (.iload_n 1, 1) := dk_at bX12_watch_0 6 rfl
theorem dX12_watch_11 : decode cX12_watch 11 = .ok (.iaload, 1) := dk_at bX12_watch_0 7 rfl
theorem dX12_watch_12 : decode cX12_watch 12 = .ok (.iconst 4, 1) := dk_at bX12_watch_0 8 rfl
theorem dX12_watch_13 : decode cX12_watch 13 = .ok (.idiv, 1) := dk_at bX12_watch_0 9 rfl
theorem dX12_watch_14 : decode cX12_watch 14 = .ok (.iadd, 1) := dk_at bX12_watch_0 10 rfl
theorem dX12_watch_15 : decode cX12_watch 15 = .ok (.istore_n 2, 1) := dk_at bX12_watch_0 11 rfl
theorem dX12_watch_16 : decode cX12_watch 16 = .ok (.aload_n 0, 1) := dk_at bX12_watch_0 12 rfl
theorem dX12_watch_17 : decode cX12_watch 17 = .ok (.aload_n 0, 1) := dk_at bX12_watch_0 13 rfl
theorem dX12_watch_18 : decode cX12_watch 18 = .ok (.getfield 82, 3) := dk_at bX12_watch_0 14 rfl
theorem dX12_watch_21 : decode cX12_watch 21 = .ok (.iload_n 1, 1) := dk_at bX12_watch_0 15 rfl
theorem dX12_watch_22 : decode cX12_watch 22 = .ok (.iaload, 1) := dk_at bX12_watch_0 16 rfl
theorem dX12_watch_23 : decode cX12_watch 23 = .ok (.iload_n 2, 1) := dk_at bX12_watch_0 17 rfl
theorem dX12_watch_24 : decode cX12_watch 24 = .ok (.invokevirtual 270, 3) := dk_at bX12_watch_0 18 rfl
theorem dX12_watch_27 : decode cX12_watch 27 = .ok (.istore_n 3, 1) := dk_at bX12_watch_0 19 rfl
theorem dX12_watch_28 : decode cX12_watch 28 = .ok (.aload_n 0, 1) := dk_at bX12_watch_0 20 rfl
theorem dX12_watch_29 : decode cX12_watch 29 = .ok (.iload_n 1, 1) := dk_at bX12_watch_0 21 rfl
theorem dX12_watch_30 : decode cX12_watch 30 = .ok (.aload_n 0, 1) := dk_at bX12_watch_0 22 rfl
theorem dX12_watch_31 : decode cX12_watch 31 = .ok (.getfield 39, 3) := dk_at bX12_watch_0 23 rfl
theorem dX12_watch_34 : decode cX12_watch 34 = .ok (.iload_n 3, 1) := dk_at bX12_watch_0 24 rfl
theorem dX12_watch_35 : decode cX12_watch 35 = .ok (.iaload, 1) := dk_at bX12_watch_0 25 rfl
theorem dX12_watch_36 : decode cX12_watch 36 = .ok (.invokevirtual 273, 3) := dk_at bX12_watch_0 26 rfl
theorem dX12_watch_39 : decode cX12_watch 39 = .ok (.istore 4, 2) := dk_at bX12_watch_0 27 rfl
theorem dX12_watch_41 : decode cX12_watch 41 = .ok (.iload 4, 2) := dk_at bX12_watch_0 28 rfl
theorem dX12_watch_43 : decode cX12_watch 43 = .ok (.iconst 2, 1) := dk_at bX12_watch_0 29 rfl
theorem dX12_watch_44 : decode cX12_watch 44 = .ok (.if_icmp .ne 12, 3) := dk_at bX12_watch_0 30 rfl
theorem dX12_watch_47 : decode cX12_watch 47 = .ok (.aload_n 0, 1) := dk_at bX12_watch_0 31 rfl
theorem dX12_watch_48 : decode cX12_watch 48 = .ok (.getfield 58, 3) := dk_at bX12_watch_0 32 rfl
theorem dX12_watch_51 : decode cX12_watch 51 = .ok (.iload_n 1, 1) := dk_at bX12_watch_0 33 rfl
theorem dX12_watch_52 : decode cX12_watch 52 = .ok (.iconst 2, 1) := dk_at bX12_watch_0 34 rfl
theorem dX12_watch_53 : decode cX12_watch 53 = .ok (.iastore, 1) := dk_at bX12_watch_0 35 rfl
theorem dX12_watch_54 : decode cX12_watch 54 = .ok (.iconst 0, 1) := dk_at bX12_watch_0 36 rfl
theorem dX12_watch_55 : decode cX12_watch 55 = .ok (.ireturn, 1) := dk_at bX12_watch_0 37 rfl
theorem dX12_watch_56 : decode cX12_watch 56 = .ok (.aload_n 0, 1) := dk_at bX12_watch_0 38 rfl
theorem dX12_watch_57 : decode cX12_watch 57 = .ok (.iload_n 1, 1) := dk_at bX12_watch_0 39 rfl
theorem bX12_watch_58 : dk cX12_watch [(58, .aload_n 0, 1), (59, .getfield 82, 3), (62, .iload_n 1, 1), (63, .iaload, 1), (64, .iload_n 2, 1), (65, .aload_n 0, 1), (66, .getfield 67, 3), (69, .iload_n 1, 1), (70, .iaload, 1), (71, .aload_n 0, 1), (72, .getfield 39, 3), (75, .iload_n 3, 1), (76, .iaload, 1), (77, .invokevirtual 248, 3), (80, .ifCond .ne 44, 3), (83, .aload_n 0, 1), (84, .getfield 103, 3), (87, .iload_n 1, 1), (88, .aload_n 0, 1), (89, .getfield 103, 3), (92, .iload_n 1, 1), (93, .iaload, 1), (94, .iconst (-1), 1), (95, .if_icmp .ne 12, 3), (98, .aload_n 0, 1), (99, .getfield 79, 3), (102, .iload_n 1, 1), (103, .iaload, 1), (104, .goto 9, 3), (107, .aload_n 0, 1), (108, .getfield 103, 3), (111, .iload_n 1, 1), (112, .iaload, 1), (113, .iastore, 1), (114, .aload_n 0, 1), (115, .getfield 97, 3), (118, .iload_n 1, 1), (119, .dup2, 1), (120, .iaload, 1), (121, .iconst 1, 1)] = true := by decide +kernel
theorem dX12_watch_58 : decode cX12_watch 58 = .ok (.aload_n 0, 1) := dk_at bX12_watch_58 0 rfl
theorem dX12_watch_59 : decode cX12_watch 59 = .ok (.getfield 82, 3) := dk_at bX12_watch_58 1 rfl
theorem dX12_watch_62 : decode cX12_watch 62 = .ok (.iload_n 1, 1) := dk_at bX12_watch_58 2 rfl
theorem dX12_watch_63 : decode cX12_watch 63 = .ok (.iaload, 1) := dk_at bX12_watch_58 3 rfl
theorem dX12_watch_64 : decode cX12_watch 64 = .ok (.iload_n 2, 1) := dk_at bX12_watch_58 4 rfl
theorem dX12_watch_65 : decode cX12_watch 65 = .ok (.aload_n 0, 1) := dk_at bX12_watch_58 5 rfl
theorem dX12_watch_66 : decode cX12_watch 66 = .ok (.getfield 67, 3) := dk_at bX12_watch_58 6 rfl
theorem dX12_watch_69 : decode cX12_watch 69 = .ok (.iload_n 1, 1) := dk_at bX12_watch_58 7 rfl
theorem dX12_watch_70 : decode cX12_watch 70 = .ok (.iaload, 1) := dk_at bX12_watch_58 8 rfl
theorem dX12_watch_71 : decode cX12_watch 71 = .ok (.aload_n 0, 1) := dk_at bX12_watch_58 9 rfl
theorem dX12_watch_72 : decode cX12_watch 72 = .ok (.getfield 39, 3) := dk_at bX12_watch_58 10 rfl
theorem dX12_watch_75 : decode cX12_watch 75 = .ok (.iload_n 3, 1) := dk_at bX12_watch_58 11 rfl
theorem dX12_watch_76 : decode cX12_watch 76 = .ok (.iaload, 1) := dk_at bX12_watch_58 12 rfl
theorem dX12_watch_77 : decode cX12_watch 77 = .ok (.invokevirtual 248, 3) := dk_at bX12_watch_58 13 rfl
theorem dX12_watch_80 : decode cX12_watch 80 = .ok (.ifCond .ne 44, 3) := dk_at bX12_watch_58 14 rfl
theorem dX12_watch_83 : decode cX12_watch 83 = .ok (.aload_n 0, 1) := dk_at bX12_watch_58 15 rfl
theorem dX12_watch_84 : decode cX12_watch 84 = .ok (.getfield 103, 3) := dk_at bX12_watch_58 16 rfl
theorem dX12_watch_87 : decode cX12_watch 87 = .ok (.iload_n 1, 1) := dk_at bX12_watch_58 17 rfl
theorem dX12_watch_88 : decode cX12_watch 88 = .ok (.aload_n 0, 1) := dk_at bX12_watch_58 18 rfl
theorem dX12_watch_89 : decode cX12_watch 89 = .ok (.getfield 103, 3) := dk_at bX12_watch_58 19 rfl
theorem dX12_watch_92 : decode cX12_watch 92 = .ok (.iload_n 1, 1) := dk_at bX12_watch_58 20 rfl
theorem dX12_watch_93 : decode cX12_watch 93 = .ok (.iaload, 1) := dk_at bX12_watch_58 21 rfl
theorem dX12_watch_94 : decode cX12_watch 94 = .ok (.iconst (-1), 1) := dk_at bX12_watch_58 22 rfl
theorem dX12_watch_95 : decode cX12_watch 95 = .ok (.if_icmp .ne 12, 3) := dk_at bX12_watch_58 23 rfl
theorem dX12_watch_98 : decode cX12_watch 98 = .ok (.aload_n 0, 1) := dk_at bX12_watch_58 24 rfl
theorem dX12_watch_99 : decode cX12_watch 99 = .ok (.getfield 79, 3) := dk_at bX12_watch_58 25 rfl
theorem dX12_watch_102 : decode cX12_watch 102 = .ok (.iload_n 1, 1) := dk_at bX12_watch_58 26 rfl
theorem dX12_watch_103 : decode cX12_watch 103 = .ok (.iaload, 1) := dk_at bX12_watch_58 27 rfl
theorem dX12_watch_104 : decode cX12_watch 104 = .ok (.goto 9, 3) := dk_at bX12_watch_58 28 rfl
theorem dX12_watch_107 : decode cX12_watch 107 = .ok (.aload_n 0, 1) := dk_at bX12_watch_58 29 rfl
theorem dX12_watch_108 : decode cX12_watch 108 = .ok (.getfield 103, 3) := dk_at bX12_watch_58 30 rfl
theorem dX12_watch_111 : decode cX12_watch 111 = .ok (.iload_n 1, 1) := dk_at bX12_watch_58 31 rfl
theorem dX12_watch_112 : decode cX12_watch 112 = .ok (.iaload, 1) := dk_at bX12_watch_58 32 rfl
theorem dX12_watch_113 : decode cX12_watch 113 = .ok (.iastore, 1) := dk_at bX12_watch_58 33 rfl
theorem dX12_watch_114 : decode cX12_watch 114 = .ok (.aload_n 0, 1) := dk_at bX12_watch_58 34 rfl
theorem dX12_watch_115 : decode cX12_watch 115 = .ok (.getfield 97, 3) := dk_at bX12_watch_58 35 rfl
theorem dX12_watch_118 : decode cX12_watch 118 = .ok (.iload_n 1, 1) := dk_at bX12_watch_58 36 rfl
theorem dX12_watch_119 : decode cX12_watch 119 = .ok (.dup2, 1) := dk_at bX12_watch_58 37 rfl
theorem dX12_watch_120 : decode cX12_watch 120 = .ok (.iaload, 1) := dk_at bX12_watch_58 38 rfl
theorem dX12_watch_121 : decode cX12_watch 121 = .ok (.iconst 1, 1) := dk_at bX12_watch_58 39 rfl
theorem bX12_watch_122 : dk cX12_watch [(122, .iadd, 1), (123, .iastore, 1), (124, .iload 4, 2), (126, .iconst 1, 1), (127, .if_icmp .ne 48, 3), (130, .aload_n 0, 1), (131, .getfield 88, 3), (134, .iload_n 1, 1), (135, .baload, 1), (136, .ifCond .ne 39, 3), (139, .aload_n 0, 1), (140, .getfield 88, 3), (143, .iload_n 1, 1), (144, .iconst 1, 1), (145, .bastore, 1), (146, .aload_n 0, 1), (147, .getfield 70, 3), (150, .bipush 8, 2), (152, .iload_n 1, 1), (153, .imul, 1), (154, .aload_n 0, 1), (155, .getfield 61, 3), (158, .iload_n 1, 1), (159, .iaload, 1), (160, .iastore, 1), (161, .aload_n 0, 1), (162, .getfield 73, 3), (165, .iload_n 1, 1), (166, .iconst 0, 1), (167, .iastore, 1), (168, .aload_n 0, 1), (169, .getfield 76, 3), (172, .iload_n 1, 1), (173, .iconst 1, 1), (174, .iastore, 1), (175, .iload 4, 2), (177, .ifCond .ne 16, 3), (180, .aload_n 0, 1), (181, .getfield 94, 3), (184, .iload_n 1, 1)] = true := by decide +kernel
theorem dX12_watch_122 : decode cX12_watch 122 = .ok (.iadd, 1) := dk_at bX12_watch_122 0 rfl
theorem dX12_watch_123 : decode cX12_watch 123 = .ok (.iastore, 1) := dk_at bX12_watch_122 1 rfl
theorem dX12_watch_124 : decode cX12_watch 124 = .ok (.iload 4, 2) := dk_at bX12_watch_122 2 rfl
theorem dX12_watch_126 : decode cX12_watch 126 = .ok (.iconst 1, 1) := dk_at bX12_watch_122 3 rfl
theorem dX12_watch_127 : decode cX12_watch 127 = .ok (.if_icmp .ne 48, 3) := dk_at bX12_watch_122 4 rfl
theorem dX12_watch_130 : decode cX12_watch 130 = .ok (.aload_n 0, 1) := dk_at bX12_watch_122 5 rfl
theorem dX12_watch_131 : decode cX12_watch 131 = .ok (.getfield 88, 3) := dk_at bX12_watch_122 6 rfl
theorem dX12_watch_134 : decode cX12_watch 134 = .ok (.iload_n 1, 1) := dk_at bX12_watch_122 7 rfl
theorem dX12_watch_135 : decode cX12_watch 135 = .ok (.baload, 1) := dk_at bX12_watch_122 8 rfl
theorem dX12_watch_136 : decode cX12_watch 136 = .ok (.ifCond .ne 39, 3) := dk_at bX12_watch_122 9 rfl
theorem dX12_watch_139 : decode cX12_watch 139 = .ok (.aload_n 0, 1) := dk_at bX12_watch_122 10 rfl
theorem dX12_watch_140 : decode cX12_watch 140 = .ok (.getfield 88, 3) := dk_at bX12_watch_122 11 rfl
theorem dX12_watch_143 : decode cX12_watch 143 = .ok (.iload_n 1, 1) := dk_at bX12_watch_122 12 rfl
theorem dX12_watch_144 : decode cX12_watch 144 = .ok (.iconst 1, 1) := dk_at bX12_watch_122 13 rfl
theorem dX12_watch_145 : decode cX12_watch 145 = .ok (.bastore, 1) := dk_at bX12_watch_122 14 rfl
theorem dX12_watch_146 : decode cX12_watch 146 = .ok (.aload_n 0, 1) := dk_at bX12_watch_122 15 rfl
theorem dX12_watch_147 : decode cX12_watch 147 = .ok (.getfield 70, 3) := dk_at bX12_watch_122 16 rfl
theorem dX12_watch_150 : decode cX12_watch 150 = .ok (.bipush 8, 2) := dk_at bX12_watch_122 17 rfl
theorem dX12_watch_152 : decode cX12_watch 152 = .ok (.iload_n 1, 1) := dk_at bX12_watch_122 18 rfl
theorem dX12_watch_153 : decode cX12_watch 153 = .ok (.imul, 1) := dk_at bX12_watch_122 19 rfl
theorem dX12_watch_154 : decode cX12_watch 154 = .ok (.aload_n 0, 1) := dk_at bX12_watch_122 20 rfl
theorem dX12_watch_155 : decode cX12_watch 155 = .ok (.getfield 61, 3) := dk_at bX12_watch_122 21 rfl
theorem dX12_watch_158 : decode cX12_watch 158 = .ok (.iload_n 1, 1) := dk_at bX12_watch_122 22 rfl
theorem dX12_watch_159 : decode cX12_watch 159 = .ok (.iaload, 1) := dk_at bX12_watch_122 23 rfl
theorem dX12_watch_160 : decode cX12_watch 160 = .ok (.iastore, 1) := dk_at bX12_watch_122 24 rfl
theorem dX12_watch_161 : decode cX12_watch 161 = .ok (.aload_n 0, 1) := dk_at bX12_watch_122 25 rfl
theorem dX12_watch_162 : decode cX12_watch 162 = .ok (.getfield 73, 3) := dk_at bX12_watch_122 26 rfl
theorem dX12_watch_165 : decode cX12_watch 165 = .ok (.iload_n 1, 1) := dk_at bX12_watch_122 27 rfl
theorem dX12_watch_166 : decode cX12_watch 166 = .ok (.iconst 0, 1) := dk_at bX12_watch_122 28 rfl
theorem dX12_watch_167 : decode cX12_watch 167 = .ok (.iastore, 1) := dk_at bX12_watch_122 29 rfl
theorem dX12_watch_168 : decode cX12_watch 168 = .ok (.aload_n 0, 1) := dk_at bX12_watch_122 30 rfl
theorem dX12_watch_169 : decode cX12_watch 169 = .ok (.getfield 76, 3) := dk_at bX12_watch_122 31 rfl
theorem dX12_watch_172 : decode cX12_watch 172 = .ok (.iload_n 1, 1) := dk_at bX12_watch_122 32 rfl
theorem dX12_watch_173 : decode cX12_watch 173 = .ok (.iconst 1, 1) := dk_at bX12_watch_122 33 rfl
theorem dX12_watch_174 : decode cX12_watch 174 = .ok (.iastore, 1) := dk_at bX12_watch_122 34 rfl
theorem dX12_watch_175 : decode cX12_watch 175 = .ok (.iload 4, 2) := dk_at bX12_watch_122 35 rfl
theorem dX12_watch_177 : decode cX12_watch 177 = .ok (.ifCond .ne 16, 3) := dk_at bX12_watch_122 36 rfl
theorem dX12_watch_180 : decode cX12_watch 180 = .ok (.aload_n 0, 1) := dk_at bX12_watch_122 37 rfl
theorem dX12_watch_181 : decode cX12_watch 181 = .ok (.getfield 94, 3) := dk_at bX12_watch_122 38 rfl
theorem dX12_watch_184 : decode cX12_watch 184 = .ok (.iload_n 1, 1) := dk_at bX12_watch_122 39 rfl
theorem bX12_watch_185 : dk cX12_watch [(185, .dup2, 1), (186, .iaload, 1), (187, .iconst 1, 1), (188, .iadd, 1), (189, .iastore, 1), (190, .goto 9, 3), (193, .aload_n 0, 1), (194, .iload_n 1, 1), (195, .iload_n 3, 1), (196, .invokevirtual 276, 3), (199, .aload_n 0, 1), (200, .getfield 48, 3), (203, .iload_n 1, 1), (204, .iaload, 1), (205, .aload_n 0, 1), (206, .getfield 67, 3), (209, .iload_n 1, 1), (210, .iaload, 1), (211, .if_icmp .ge 13, 3), (214, .aload_n 0, 1), (215, .getfield 100, 3), (218, .iload_n 1, 1), (219, .dup2, 1), (220, .iaload, 1), (221, .iconst 1, 1), (222, .iadd, 1), (223, .iastore, 1), (224, .aload_n 0, 1), (225, .getfield 48, 3), (228, .iload_n 1, 1), (229, .aload_n 0, 1), (230, .getfield 48, 3), (233, .iload_n 1, 1), (234, .iaload, 1), (235, .aload_n 0, 1), (236, .getfield 67, 3), (239, .iload_n 1, 1), (240, .iaload, 1), (241, .if_icmp .ge 7, 3), (244, .iconst 0, 1)] = true := by decide +kernel
theorem dX12_watch_185 : decode cX12_watch 185 = .ok (.dup2, 1) := dk_at bX12_watch_185 0 rfl
theorem dX12_watch_186 : decode cX12_watch 186 = .ok (.iaload, 1) := dk_at bX12_watch_185 1 rfl
theorem dX12_watch_187 : decode cX12_watch 187 = .ok (.iconst 1, 1) := dk_at bX12_watch_185 2 rfl
theorem dX12_watch_188 : decode cX12_watch 188 = .ok (.iadd, 1) := dk_at bX12_watch_185 3 rfl
theorem dX12_watch_189 : decode cX12_watch 189 = .ok (.iastore, 1) := dk_at bX12_watch_185 4 rfl
theorem dX12_watch_190 : decode cX12_watch 190 = .ok (.goto 9, 3) := dk_at bX12_watch_185 5 rfl
theorem dX12_watch_193 : decode cX12_watch 193 = .ok (.aload_n 0, 1) := dk_at bX12_watch_185 6 rfl
theorem dX12_watch_194 : decode cX12_watch 194 = .ok (.iload_n 1, 1) := dk_at bX12_watch_185 7 rfl
theorem dX12_watch_195 : decode cX12_watch 195 = .ok (.iload_n 3, 1) := dk_at bX12_watch_185 8 rfl
theorem dX12_watch_196 : decode cX12_watch 196 = .ok (.invokevirtual 276, 3) := dk_at bX12_watch_185 9 rfl
theorem dX12_watch_199 : decode cX12_watch 199 = .ok (.aload_n 0, 1) := dk_at bX12_watch_185 10 rfl
theorem dX12_watch_200 : decode cX12_watch 200 = .ok (.getfield 48, 3) := dk_at bX12_watch_185 11 rfl
theorem dX12_watch_203 : decode cX12_watch 203 = .ok (.iload_n 1, 1) := dk_at bX12_watch_185 12 rfl
theorem dX12_watch_204 : decode cX12_watch 204 = .ok (.iaload, 1) := dk_at bX12_watch_185 13 rfl
theorem dX12_watch_205 : decode cX12_watch 205 = .ok (.aload_n 0, 1) := dk_at bX12_watch_185 14 rfl
theorem dX12_watch_206 : decode cX12_watch 206 = .ok (.getfield 67, 3) := dk_at bX12_watch_185 15 rfl
theorem dX12_watch_209 : decode cX12_watch 209 = .ok (.iload_n 1, 1) := dk_at bX12_watch_185 16 rfl
theorem dX12_watch_210 : decode cX12_watch 210 = .ok (.iaload, 1) := dk_at bX12_watch_185 17 rfl
theorem dX12_watch_211 : decode cX12_watch 211 = .ok (.if_icmp .ge 13, 3) := dk_at bX12_watch_185 18 rfl
theorem dX12_watch_214 : decode cX12_watch 214 = .ok (.aload_n 0, 1) := dk_at bX12_watch_185 19 rfl
theorem dX12_watch_215 : decode cX12_watch 215 = .ok (.getfield 100, 3) := dk_at bX12_watch_185 20 rfl
theorem dX12_watch_218 : decode cX12_watch 218 = .ok (.iload_n 1, 1) := dk_at bX12_watch_185 21 rfl
theorem dX12_watch_219 : decode cX12_watch 219 = .ok (.dup2, 1) := dk_at bX12_watch_185 22 rfl
theorem dX12_watch_220 : decode cX12_watch 220 = .ok (.iaload, 1) := dk_at bX12_watch_185 23 rfl
theorem dX12_watch_221 : decode cX12_watch 221 = .ok (.iconst 1, 1) := dk_at bX12_watch_185 24 rfl
theorem dX12_watch_222 : decode cX12_watch 222 = .ok (.iadd, 1) := dk_at bX12_watch_185 25 rfl
theorem dX12_watch_223 : decode cX12_watch 223 = .ok (.iastore, 1) := dk_at bX12_watch_185 26 rfl
theorem dX12_watch_224 : decode cX12_watch 224 = .ok (.aload_n 0, 1) := dk_at bX12_watch_185 27 rfl
theorem dX12_watch_225 : decode cX12_watch 225 = .ok (.getfield 48, 3) := dk_at bX12_watch_185 28 rfl
theorem dX12_watch_228 : decode cX12_watch 228 = .ok (.iload_n 1, 1) := dk_at bX12_watch_185 29 rfl
theorem dX12_watch_229 : decode cX12_watch 229 = .ok (.aload_n 0, 1) := dk_at bX12_watch_185 30 rfl
theorem dX12_watch_230 : decode cX12_watch 230 = .ok (.getfield 48, 3) := dk_at bX12_watch_185 31 rfl
theorem dX12_watch_233 : decode cX12_watch 233 = .ok (.iload_n 1, 1) := dk_at bX12_watch_185 32 rfl
theorem dX12_watch_234 : decode cX12_watch 234 = .ok (.iaload, 1) := dk_at bX12_watch_185 33 rfl
theorem dX12_watch_235 : decode cX12_watch 235 = .ok (.aload_n 0, 1) := dk_at bX12_watch_185 34 rfl
theorem dX12_watch_236 : decode cX12_watch 236 = .ok (.getfield 67, 3) := dk_at bX12_watch_185 35 rfl
theorem dX12_watch_239 : decode cX12_watch 239 = .ok (.iload_n 1, 1) := dk_at bX12_watch_185 36 rfl
theorem dX12_watch_240 : decode cX12_watch 240 = .ok (.iaload, 1) := dk_at bX12_watch_185 37 rfl
theorem dX12_watch_241 : decode cX12_watch 241 = .ok (.if_icmp .ge 7, 3) := dk_at bX12_watch_185 38 rfl
theorem dX12_watch_244 : decode cX12_watch 244 = .ok (.iconst 0, 1) := dk_at bX12_watch_185 39 rfl
theorem bX12_watch_245 : dk cX12_watch [(245, .goto 16, 3), (248, .aload_n 0, 1), (249, .getfield 48, 3), (252, .iload_n 1, 1), (253, .iaload, 1), (254, .aload_n 0, 1), (255, .getfield 67, 3), (258, .iload_n 1, 1), (259, .iaload, 1), (260, .isub, 1), (261, .iastore, 1), (262, .iconst 4, 1), (263, .iload_n 1, 1), (264, .imul, 1), (265, .istore 5, 2), (267, .iload 5, 2), (269, .iconst 4, 1), (270, .iload_n 1, 1), (271, .imul, 1), (272, .iconst 4, 1), (273, .iadd, 1), (274, .if_icmp .ge 40, 3), (277, .aload_n 0, 1), (278, .getfield 51, 3), (281, .iload 5, 2), (283, .aload_n 0, 1), (284, .getfield 51, 3), (287, .iload 5, 2), (289, .iaload, 1), (290, .iconst (-1), 1), (291, .if_icmp .ne 7, 3), (294, .iconst (-1), 1), (295, .goto 12, 3), (298, .aload_n 0, 1), (299, .getfield 51, 3), (302, .iload 5, 2), (304, .iaload, 1), (305, .iconst 1, 1), (306, .isub, 1), (307, .iastore, 1)] = true := by decide +kernel
theorem dX12_watch_245 : decode cX12_watch 245 = .ok (.goto 16, 3) := dk_at bX12_watch_245 0 rfl
theorem dX12_watch_248 : decode cX12_watch 248 = .ok (.aload_n 0, 1) := dk_at bX12_watch_245 1 rfl
theorem dX12_watch_249 : decode cX12_watch 249 = .ok (.getfield 48, 3) := dk_at bX12_watch_245 2 rfl
theorem dX12_watch_252 : decode cX12_watch 252 = .ok (.iload_n 1, 1) := dk_at bX12_watch_245 3 rfl
theorem dX12_watch_253 : decode cX12_watch 253 = .ok (.iaload, 1) := dk_at bX12_watch_245 4 rfl
theorem dX12_watch_254 : decode cX12_watch 254 = .ok (.aload_n 0, 1) := dk_at bX12_watch_245 5 rfl
theorem dX12_watch_255 : decode cX12_watch 255 = .ok (.getfield 67, 3) := dk_at bX12_watch_245 6 rfl
theorem dX12_watch_258 : decode cX12_watch 258 = .ok (.iload_n 1, 1) := dk_at bX12_watch_245 7 rfl
theorem dX12_watch_259 : decode cX12_watch 259 = .ok (.iaload, 1) := dk_at bX12_watch_245 8 rfl
theorem dX12_watch_260 : decode cX12_watch 260 = .ok (.isub, 1) := dk_at bX12_watch_245 9 rfl
theorem dX12_watch_261 : decode cX12_watch 261 = .ok (.iastore, 1) := dk_at bX12_watch_245 10 rfl
theorem dX12_watch_262 : decode cX12_watch 262 = .ok (.iconst 4, 1) := dk_at bX12_watch_245 11 rfl
theorem dX12_watch_263 : decode cX12_watch 263 = .ok (.iload_n 1, 1) := dk_at bX12_watch_245 12 rfl
theorem dX12_watch_264 : decode cX12_watch 264 = .ok (.imul, 1) := dk_at bX12_watch_245 13 rfl
theorem dX12_watch_265 : decode cX12_watch 265 = .ok (.istore 5, 2) := dk_at bX12_watch_245 14 rfl
theorem dX12_watch_267 : decode cX12_watch 267 = .ok (.iload 5, 2) := dk_at bX12_watch_245 15 rfl
theorem dX12_watch_269 : decode cX12_watch 269 = .ok (.iconst 4, 1) := dk_at bX12_watch_245 16 rfl
theorem dX12_watch_270 : decode cX12_watch 270 = .ok (.iload_n 1, 1) := dk_at bX12_watch_245 17 rfl
theorem dX12_watch_271 : decode cX12_watch 271 = .ok (.imul, 1) := dk_at bX12_watch_245 18 rfl
theorem dX12_watch_272 : decode cX12_watch 272 = .ok (.iconst 4, 1) := dk_at bX12_watch_245 19 rfl
theorem dX12_watch_273 : decode cX12_watch 273 = .ok (.iadd, 1) := dk_at bX12_watch_245 20 rfl
theorem dX12_watch_274 : decode cX12_watch 274 = .ok (.if_icmp .ge 40, 3) := dk_at bX12_watch_245 21 rfl
theorem dX12_watch_277 : decode cX12_watch 277 = .ok (.aload_n 0, 1) := dk_at bX12_watch_245 22 rfl
theorem dX12_watch_278 : decode cX12_watch 278 = .ok (.getfield 51, 3) := dk_at bX12_watch_245 23 rfl
theorem dX12_watch_281 : decode cX12_watch 281 = .ok (.iload 5, 2) := dk_at bX12_watch_245 24 rfl
theorem dX12_watch_283 : decode cX12_watch 283 = .ok (.aload_n 0, 1) := dk_at bX12_watch_245 25 rfl
theorem dX12_watch_284 : decode cX12_watch 284 = .ok (.getfield 51, 3) := dk_at bX12_watch_245 26 rfl
theorem dX12_watch_287 : decode cX12_watch 287 = .ok (.iload 5, 2) := dk_at bX12_watch_245 27 rfl
theorem dX12_watch_289 : decode cX12_watch 289 = .ok (.iaload, 1) := dk_at bX12_watch_245 28 rfl
theorem dX12_watch_290 : decode cX12_watch 290 = .ok (.iconst (-1), 1) := dk_at bX12_watch_245 29 rfl
theorem dX12_watch_291 : decode cX12_watch 291 = .ok (.if_icmp .ne 7, 3) := dk_at bX12_watch_245 30 rfl
theorem dX12_watch_294 : decode cX12_watch 294 = .ok (.iconst (-1), 1) := dk_at bX12_watch_245 31 rfl
theorem dX12_watch_295 : decode cX12_watch 295 = .ok (.goto 12, 3) := dk_at bX12_watch_245 32 rfl
theorem dX12_watch_298 : decode cX12_watch 298 = .ok (.aload_n 0, 1) := dk_at bX12_watch_245 33 rfl
theorem dX12_watch_299 : decode cX12_watch 299 = .ok (.getfield 51, 3) := dk_at bX12_watch_245 34 rfl
theorem dX12_watch_302 : decode cX12_watch 302 = .ok (.iload 5, 2) := dk_at bX12_watch_245 35 rfl
theorem dX12_watch_304 : decode cX12_watch 304 = .ok (.iaload, 1) := dk_at bX12_watch_245 36 rfl
theorem dX12_watch_305 : decode cX12_watch 305 = .ok (.iconst 1, 1) := dk_at bX12_watch_245 37 rfl
theorem dX12_watch_306 : decode cX12_watch 306 = .ok (.isub, 1) := dk_at bX12_watch_245 38 rfl
theorem dX12_watch_307 : decode cX12_watch 307 = .ok (.iastore, 1) := dk_at bX12_watch_245 39 rfl
theorem bX12_watch_308 : dk cX12_watch [(308, .iinc 5 1, 3), (311, .goto (-44), 3), (314, .aload_n 0, 1), (315, .getfield 79, 3), (318, .iload_n 1, 1), (319, .dup2, 1), (320, .iaload, 1), (321, .iconst 1, 1), (322, .iadd, 1), (323, .iastore, 1), (324, .aload_n 0, 1), (325, .dup, 1), (326, .getfield 280, 3), (329, .iconst 1, 1), (330, .iadd, 1), (331, .putfield 280, 3), (334, .iconst 1, 1), (335, .ireturn, 1)] = true := by decide +kernel
theorem dX12_watch_308 : decode cX12_watch 308 = .ok (.iinc 5 1, 3) := dk_at bX12_watch_308 0 rfl
theorem dX12_watch_311 : decode cX12_watch 311 = .ok (.goto (-44), 3) := dk_at bX12_watch_308 1 rfl
theorem dX12_watch_314 : decode cX12_watch 314 = .ok (.aload_n 0, 1) := dk_at bX12_watch_308 2 rfl
theorem dX12_watch_315 : decode cX12_watch 315 = .ok (.getfield 79, 3) := dk_at bX12_watch_308 3 rfl
theorem dX12_watch_318 : decode cX12_watch 318 = .ok (.iload_n 1, 1) := dk_at bX12_watch_308 4 rfl
theorem dX12_watch_319 : decode cX12_watch 319 = .ok (.dup2, 1) := dk_at bX12_watch_308 5 rfl
theorem dX12_watch_320 : decode cX12_watch 320 = .ok (.iaload, 1) := dk_at bX12_watch_308 6 rfl
theorem dX12_watch_321 : decode cX12_watch 321 = .ok (.iconst 1, 1) := dk_at bX12_watch_308 7 rfl
theorem dX12_watch_322 : decode cX12_watch 322 = .ok (.iadd, 1) := dk_at bX12_watch_308 8 rfl
theorem dX12_watch_323 : decode cX12_watch 323 = .ok (.iastore, 1) := dk_at bX12_watch_308 9 rfl
theorem dX12_watch_324 : decode cX12_watch 324 = .ok (.aload_n 0, 1) := dk_at bX12_watch_308 10 rfl
theorem dX12_watch_325 : decode cX12_watch 325 = .ok (.dup, 1) := dk_at bX12_watch_308 11 rfl
theorem dX12_watch_326 : decode cX12_watch 326 = .ok (.getfield 280, 3) := dk_at bX12_watch_308 12 rfl
theorem dX12_watch_329 : decode cX12_watch 329 = .ok (.iconst 1, 1) := dk_at bX12_watch_308 13 rfl
theorem dX12_watch_330 : decode cX12_watch 330 = .ok (.iadd, 1) := dk_at bX12_watch_308 14 rfl
theorem dX12_watch_331 : decode cX12_watch 331 = .ok (.putfield 280, 3) := dk_at bX12_watch_308 15 rfl
theorem dX12_watch_334 : decode cX12_watch 334 = .ok (.iconst 1, 1) := dk_at bX12_watch_308 16 rfl
theorem dX12_watch_335 : decode cX12_watch 335 = .ok (.ireturn, 1) := dk_at bX12_watch_308 17 rfl
set_option maxRecDepth 20000 in
theorem ggX12_sail_X12_isBoat : GoodIn wsX12_sail wsX12_isBoat := goodIn_r _ [8, 9, 10, 7, 11] rfl (by decide +kernel)
set_option maxRecDepth 20000 in
theorem gX12_sail_X12_isBoat : GoodIn wsX12_sail (va_wsS RX12 222 yX12_isBoat wsX12_isBoat) := goodIn_app (goodIn_r _ [5, 6, 7] rfl (by decide +kernel)) ggX12_sail_X12_isBoat
set_option maxRecDepth 20000 in
theorem ggX12_sail_X12_in : GoodIn wsX12_sail wsX12_in := goodIn_r _ [11] rfl (by decide +kernel)
set_option maxRecDepth 20000 in
theorem gX12_sail_X12_in : GoodIn wsX12_sail (va_wsS RX12 148 yX12_in wsX12_in) := goodIn_app (goodIn_r _ [9, 10, 7] rfl (by decide +kernel)) ggX12_sail_X12_in
set_option maxRecDepth 20000 in
theorem ggX12_sail_X12_watch : GoodIn wsX12_sail wsX12_watch := goodIn_r _ [15, 16, 17, 18, 19, 2, 20, 21, 22, 23, 24, 25, 26, 3, 27, 28, 29, 30, 4, 31, 32, 33, 7, 34, 35, 36, 37, 38, 39, 40, 41, 42, 43, 44, 45, 46, 47, 48, 49, 50, 51, 52, 53, 54, 55, 56, 57, 58, 59, 60, 61, 9, 10, 11, 62, 63, 64, 65, 66, 67, 68, 69, 70, 71, 72, 73, 74, 75, 76, 77, 78, 79, 80, 81, 82, 83, 84, 85, 86, 87, 88, 89, 90, 91, 92, 93, 94, 95, 96, 97, 98, 99, 100, 101, 102, 103, 104, 105, 106, 107, 108, 109, 110, 111, 112, 113, 114, 115, 116, 117, 118, 119, 120, 121, 122, 123, 124, 125, 126, 127, 128, 129, 130, 131, 132, 133, 134, 135, 136, 137, 138, 139, 140, 141, 142, 143, 144, 145, 146, 147] rfl (by decide +kernel)
set_option maxRecDepth 20000 in
theorem gX12_sail_X12_watch : GoodIn wsX12_sail (wsV RX12 283 RX12 yX12_watch wsX12_watch) := goodIn_app (goodIn_r _ [12, 13, 14, 7] rfl (by decide +kernel)) ggX12_sail_X12_watch
theorem bX12_sail_0 : dk cX12_sail [(0, .iload_n 1, 1), (1, .invokestatic 222, 3), (4, .ifCond .eq 14, 3), (7, .iload_n 2, 1), (8, .iconst 1, 1), (9, .sipush 400, 3), (12, .invokestatic 148, 3), (15, .ifCond .ne 6, 3), (18, .bipush (-2), 2), (20, .ireturn, 1), (21, .aload_n 0, 1), (22, .getfield 54, 3), (25, .iload_n 1, 1), (26, .baload, 1), (27, .ifCond .eq 21, 3), (30, .aload_n 0, 1), (31, .getfield 58, 3), (34, .iload_n 1, 1), (35, .iaload, 1), (36, .ifCond .ne 12, 3), (39, .aload_n 0, 1), (40, .getfield 76, 3), (43, .iload_n 1, 1), (44, .iaload, 1), (45, .ifCond .ne 6, 3), (48, .bipush (-4), 2), (50, .ireturn, 1), (51, .aload_n 0, 1), (52, .getfield 280, 3), (55, .sipush 2000, 3), (58, .if_icmp .ne 6, 3), (61, .bipush (-3), 2), (63, .ireturn, 1), (64, .iconst 0, 1), (65, .istore_n 3, 1), (66, .iload_n 3, 1), (67, .iload_n 2, 1), (68, .if_icmp .ge 36, 3), (71, .aload_n 0, 1), (72, .getfield 280, 3)] = true := by decide +kernel
theorem dX12_sail_0 : decode cX12_sail 0 = .ok (.iload_n 1, 1) := dk_at bX12_sail_0 0 rfl
theorem dX12_sail_1 : decode cX12_sail 1 = .ok (.invokestatic 222, 3) := dk_at bX12_sail_0 1 rfl
theorem dX12_sail_4 : decode cX12_sail 4 = .ok (.ifCond .eq 14, 3) := dk_at bX12_sail_0 2 rfl
theorem dX12_sail_7 : decode cX12_sail 7 = .ok (.iload_n 2, 1) := dk_at bX12_sail_0 3 rfl
theorem dX12_sail_8 : decode cX12_sail 8 = .ok (.iconst 1, 1) := dk_at bX12_sail_0 4 rfl
theorem dX12_sail_9 : decode cX12_sail 9 = .ok (.sipush 400, 3) := dk_at bX12_sail_0 5 rfl
theorem dX12_sail_12 : decode cX12_sail 12 = .ok (.invokestatic 148, 3) := dk_at bX12_sail_0 6 rfl
theorem dX12_sail_15 : decode cX12_sail 15 = .ok (.ifCond .ne 6, 3) := dk_at bX12_sail_0 7 rfl
theorem dX12_sail_18 : decode cX12_sail 18 = .ok (.bipush (-2), 2) := dk_at bX12_sail_0 8 rfl
theorem dX12_sail_20 : decode cX12_sail 20 = .ok (.ireturn, 1) := dk_at bX12_sail_0 9 rfl
theorem dX12_sail_21 : decode cX12_sail 21 = .ok (.aload_n 0, 1) := dk_at bX12_sail_0 10 rfl
theorem dX12_sail_22 : decode cX12_sail 22 = .ok (.getfield 54, 3) := dk_at bX12_sail_0 11 rfl
theorem dX12_sail_25 : decode cX12_sail 25 = .ok (.iload_n 1, 1) := dk_at bX12_sail_0 12 rfl
theorem dX12_sail_26 : decode cX12_sail 26 = .ok (.baload, 1) := dk_at bX12_sail_0 13 rfl
theorem dX12_sail_27 : decode cX12_sail 27 = .ok (.ifCond .eq 21, 3) := dk_at bX12_sail_0 14 rfl
theorem dX12_sail_30 : decode cX12_sail 30 = .ok (.aload_n 0, 1) := dk_at bX12_sail_0 15 rfl
theorem dX12_sail_31 : decode cX12_sail 31 = .ok (.getfield 58, 3) := dk_at bX12_sail_0 16 rfl
theorem dX12_sail_34 : decode cX12_sail 34 = .ok (.iload_n 1, 1) := dk_at bX12_sail_0 17 rfl
theorem dX12_sail_35 : decode cX12_sail 35 = .ok (.iaload, 1) := dk_at bX12_sail_0 18 rfl
theorem dX12_sail_36 : decode cX12_sail 36 = .ok (.ifCond .ne 12, 3) := dk_at bX12_sail_0 19 rfl
theorem dX12_sail_39 : decode cX12_sail 39 = .ok (.aload_n 0, 1) := dk_at bX12_sail_0 20 rfl
theorem dX12_sail_40 : decode cX12_sail 40 = .ok (.getfield 76, 3) := dk_at bX12_sail_0 21 rfl
theorem dX12_sail_43 : decode cX12_sail 43 = .ok (.iload_n 1, 1) := dk_at bX12_sail_0 22 rfl
theorem dX12_sail_44 : decode cX12_sail 44 = .ok (.iaload, 1) := dk_at bX12_sail_0 23 rfl
theorem dX12_sail_45 : decode cX12_sail 45 = .ok (.ifCond .ne 6, 3) := dk_at bX12_sail_0 24 rfl
theorem dX12_sail_48 : decode cX12_sail 48 = .ok (.bipush (-4), 2) := dk_at bX12_sail_0 25 rfl
theorem dX12_sail_50 : decode cX12_sail 50 = .ok (.ireturn, 1) := dk_at bX12_sail_0 26 rfl
theorem dX12_sail_51 : decode cX12_sail 51 = .ok (.aload_n 0, 1) := dk_at bX12_sail_0 27 rfl
theorem dX12_sail_52 : decode cX12_sail 52 = .ok (.getfield 280, 3) := dk_at bX12_sail_0 28 rfl
theorem dX12_sail_55 : decode cX12_sail 55 = .ok (.sipush 2000, 3) := dk_at bX12_sail_0 29 rfl
theorem dX12_sail_58 : decode cX12_sail 58 = .ok (.if_icmp .ne 6, 3) := dk_at bX12_sail_0 30 rfl
theorem dX12_sail_61 : decode cX12_sail 61 = .ok (.bipush (-3), 2) := dk_at bX12_sail_0 31 rfl
theorem dX12_sail_63 : decode cX12_sail 63 = .ok (.ireturn, 1) := dk_at bX12_sail_0 32 rfl
theorem dX12_sail_64 : decode cX12_sail 64 = .ok (.iconst 0, 1) := dk_at bX12_sail_0 33 rfl
theorem dX12_sail_65 : decode cX12_sail 65 = .ok (.istore_n 3, 1) := dk_at bX12_sail_0 34 rfl
theorem dX12_sail_66 : decode cX12_sail 66 = .ok (.iload_n 3, 1) := dk_at bX12_sail_0 35 rfl
theorem dX12_sail_67 : decode cX12_sail 67 = .ok (.iload_n 2, 1) := dk_at bX12_sail_0 36 rfl
theorem dX12_sail_68 : decode cX12_sail 68 = .ok (.if_icmp .ge 36, 3) := dk_at bX12_sail_0 37 rfl
theorem dX12_sail_71 : decode cX12_sail 71 = .ok (.aload_n 0, 1) := dk_at bX12_sail_0 38 rfl
theorem dX12_sail_72 : decode cX12_sail 72 = .ok (.getfield 280, 3) := dk_at bX12_sail_0 39 rfl
theorem bX12_sail_75 : dk cX12_sail [(75, .sipush 2000, 3), (78, .if_icmp .ge 26, 3), (81, .aload_n 0, 1), (82, .getfield 58, 3), (85, .iload_n 1, 1), (86, .iaload, 1), (87, .ifCond .ne 17, 3), (90, .aload_n 0, 1), (91, .iload_n 1, 1), (92, .invokevirtual 283, 3), (95, .ifCond .eq 9, 3), (98, .iinc 3 1, 3), (101, .goto (-35), 3), (104, .iload_n 3, 1), (105, .ireturn, 1)] = true := by decide +kernel
theorem dX12_sail_75 : decode cX12_sail 75 = .ok (.sipush 2000, 3) := dk_at bX12_sail_75 0 rfl
theorem dX12_sail_78 : decode cX12_sail 78 = .ok (.if_icmp .ge 26, 3) := dk_at bX12_sail_75 1 rfl
theorem dX12_sail_81 : decode cX12_sail 81 = .ok (.aload_n 0, 1) := dk_at bX12_sail_75 2 rfl
theorem dX12_sail_82 : decode cX12_sail 82 = .ok (.getfield 58, 3) := dk_at bX12_sail_75 3 rfl
theorem dX12_sail_85 : decode cX12_sail 85 = .ok (.iload_n 1, 1) := dk_at bX12_sail_75 4 rfl
theorem dX12_sail_86 : decode cX12_sail 86 = .ok (.iaload, 1) := dk_at bX12_sail_75 5 rfl
theorem dX12_sail_87 : decode cX12_sail 87 = .ok (.ifCond .ne 17, 3) := dk_at bX12_sail_75 6 rfl
theorem dX12_sail_90 : decode cX12_sail 90 = .ok (.aload_n 0, 1) := dk_at bX12_sail_75 7 rfl
theorem dX12_sail_91 : decode cX12_sail 91 = .ok (.iload_n 1, 1) := dk_at bX12_sail_75 8 rfl
theorem dX12_sail_92 : decode cX12_sail 92 = .ok (.invokevirtual 283, 3) := dk_at bX12_sail_75 9 rfl
theorem dX12_sail_95 : decode cX12_sail 95 = .ok (.ifCond .eq 9, 3) := dk_at bX12_sail_75 10 rfl
theorem dX12_sail_98 : decode cX12_sail 98 = .ok (.iinc 3 1, 3) := dk_at bX12_sail_75 11 rfl
theorem dX12_sail_101 : decode cX12_sail 101 = .ok (.goto (-35), 3) := dk_at bX12_sail_75 12 rfl
theorem dX12_sail_104 : decode cX12_sail 104 = .ok (.iload_n 3, 1) := dk_at bX12_sail_75 13 rfl
theorem dX12_sail_105 : decode cX12_sail 105 = .ok (.ireturn, 1) := dk_at bX12_sail_75 14 rfl
set_option maxRecDepth 20000 in
theorem ggX12_passage_X12_isBoat : GoodIn wsX12_passage wsX12_isBoat := goodIn_r _ [17, 18, 19, 16, 20] rfl (by decide +kernel)
set_option maxRecDepth 20000 in
theorem gX12_passage_X12_isBoat : GoodIn wsX12_passage (va_wsS RX12 222 yX12_isBoat wsX12_isBoat) := goodIn_app (goodIn_r _ [14, 15, 16] rfl (by decide +kernel)) ggX12_passage_X12_isBoat
theorem bX12_passage_0 : dk cX12_passage [(0, .iload_n 1, 1), (1, .invokestatic 222, 3), (4, .ifCond .eq 12, 3), (7, .aload_n 0, 1), (8, .getfield 54, 3), (11, .iload_n 1, 1), (12, .baload, 1), (13, .ifCond .ne 6, 3), (16, .bipush (-9), 2), (18, .ireturn, 1), (19, .iload_n 2, 1), (20, .tableswitch 152 0 10 #[60, 67, 74, 81, 88, 103, 110, 117, 124, 131, 145], 60), (80, .aload_n 0, 1), (81, .getfield 58, 3), (84, .iload_n 1, 1), (85, .iaload, 1), (86, .ireturn, 1), (87, .aload_n 0, 1), (88, .getfield 79, 3), (91, .iload_n 1, 1), (92, .iaload, 1), (93, .ireturn, 1), (94, .aload_n 0, 1), (95, .getfield 82, 3), (98, .iload_n 1, 1), (99, .iaload, 1), (100, .ireturn, 1), (101, .aload_n 0, 1), (102, .getfield 85, 3), (105, .iload_n 1, 1), (106, .iaload, 1), (107, .ireturn, 1), (108, .aload_n 0, 1), (109, .getfield 88, 3), (112, .iload_n 1, 1), (113, .baload, 1), (114, .ifCond .eq 7, 3), (117, .iconst 1, 1), (118, .goto 4, 3), (121, .iconst 0, 1)] = true := by decide +kernel
theorem dX12_passage_0 : decode cX12_passage 0 = .ok (.iload_n 1, 1) := dk_at bX12_passage_0 0 rfl
theorem dX12_passage_1 : decode cX12_passage 1 = .ok (.invokestatic 222, 3) := dk_at bX12_passage_0 1 rfl
theorem dX12_passage_4 : decode cX12_passage 4 = .ok (.ifCond .eq 12, 3) := dk_at bX12_passage_0 2 rfl
theorem dX12_passage_7 : decode cX12_passage 7 = .ok (.aload_n 0, 1) := dk_at bX12_passage_0 3 rfl
theorem dX12_passage_8 : decode cX12_passage 8 = .ok (.getfield 54, 3) := dk_at bX12_passage_0 4 rfl
theorem dX12_passage_11 : decode cX12_passage 11 = .ok (.iload_n 1, 1) := dk_at bX12_passage_0 5 rfl
theorem dX12_passage_12 : decode cX12_passage 12 = .ok (.baload, 1) := dk_at bX12_passage_0 6 rfl
theorem dX12_passage_13 : decode cX12_passage 13 = .ok (.ifCond .ne 6, 3) := dk_at bX12_passage_0 7 rfl
theorem dX12_passage_16 : decode cX12_passage 16 = .ok (.bipush (-9), 2) := dk_at bX12_passage_0 8 rfl
theorem dX12_passage_18 : decode cX12_passage 18 = .ok (.ireturn, 1) := dk_at bX12_passage_0 9 rfl
theorem dX12_passage_19 : decode cX12_passage 19 = .ok (.iload_n 2, 1) := dk_at bX12_passage_0 10 rfl
theorem dX12_passage_20 : decode cX12_passage 20 = .ok (.tableswitch 152 0 10 #[60, 67, 74, 81, 88, 103, 110, 117, 124, 131, 145], 60) := dk_at bX12_passage_0 11 rfl
theorem dX12_passage_80 : decode cX12_passage 80 = .ok (.aload_n 0, 1) := dk_at bX12_passage_0 12 rfl
theorem dX12_passage_81 : decode cX12_passage 81 = .ok (.getfield 58, 3) := dk_at bX12_passage_0 13 rfl
theorem dX12_passage_84 : decode cX12_passage 84 = .ok (.iload_n 1, 1) := dk_at bX12_passage_0 14 rfl
theorem dX12_passage_85 : decode cX12_passage 85 = .ok (.iaload, 1) := dk_at bX12_passage_0 15 rfl
theorem dX12_passage_86 : decode cX12_passage 86 = .ok (.ireturn, 1) := dk_at bX12_passage_0 16 rfl
theorem dX12_passage_87 : decode cX12_passage 87 = .ok (.aload_n 0, 1) := dk_at bX12_passage_0 17 rfl
theorem dX12_passage_88 : decode cX12_passage 88 = .ok (.getfield 79, 3) := dk_at bX12_passage_0 18 rfl
theorem dX12_passage_91 : decode cX12_passage 91 = .ok (.iload_n 1, 1) := dk_at bX12_passage_0 19 rfl
theorem dX12_passage_92 : decode cX12_passage 92 = .ok (.iaload, 1) := dk_at bX12_passage_0 20 rfl
theorem dX12_passage_93 : decode cX12_passage 93 = .ok (.ireturn, 1) := dk_at bX12_passage_0 21 rfl
theorem dX12_passage_94 : decode cX12_passage 94 = .ok (.aload_n 0, 1) := dk_at bX12_passage_0 22 rfl
theorem dX12_passage_95 : decode cX12_passage 95 = .ok (.getfield 82, 3) := dk_at bX12_passage_0 23 rfl
theorem dX12_passage_98 : decode cX12_passage 98 = .ok (.iload_n 1, 1) := dk_at bX12_passage_0 24 rfl
theorem dX12_passage_99 : decode cX12_passage 99 = .ok (.iaload, 1) := dk_at bX12_passage_0 25 rfl
theorem dX12_passage_100 : decode cX12_passage 100 = .ok (.ireturn, 1) := dk_at bX12_passage_0 26 rfl
theorem dX12_passage_101 : decode cX12_passage 101 = .ok (.aload_n 0, 1) := dk_at bX12_passage_0 27 rfl
theorem dX12_passage_102 : decode cX12_passage 102 = .ok (.getfield 85, 3) := dk_at bX12_passage_0 28 rfl
theorem dX12_passage_105 : decode cX12_passage 105 = .ok (.iload_n 1, 1) := dk_at bX12_passage_0 29 rfl
theorem dX12_passage_106 : decode cX12_passage 106 = .ok (.iaload, 1) := dk_at bX12_passage_0 30 rfl
theorem dX12_passage_107 : decode cX12_passage 107 = .ok (.ireturn, 1) := dk_at bX12_passage_0 31 rfl
theorem dX12_passage_108 : decode cX12_passage 108 = .ok (.aload_n 0, 1) := dk_at bX12_passage_0 32 rfl
theorem dX12_passage_109 : decode cX12_passage 109 = .ok (.getfield 88, 3) := dk_at bX12_passage_0 33 rfl
theorem dX12_passage_112 : decode cX12_passage 112 = .ok (.iload_n 1, 1) := dk_at bX12_passage_0 34 rfl
theorem dX12_passage_113 : decode cX12_passage 113 = .ok (.baload, 1) := dk_at bX12_passage_0 35 rfl
theorem dX12_passage_114 : decode cX12_passage 114 = .ok (.ifCond .eq 7, 3) := dk_at bX12_passage_0 36 rfl
theorem dX12_passage_117 : decode cX12_passage 117 = .ok (.iconst 1, 1) := dk_at bX12_passage_0 37 rfl
theorem dX12_passage_118 : decode cX12_passage 118 = .ok (.goto 4, 3) := dk_at bX12_passage_0 38 rfl
theorem dX12_passage_121 : decode cX12_passage 121 = .ok (.iconst 0, 1) := dk_at bX12_passage_0 39 rfl
theorem bX12_passage_122 : dk cX12_passage [(122, .ireturn, 1), (123, .aload_n 0, 1), (124, .getfield 91, 3), (127, .iload_n 1, 1), (128, .iaload, 1), (129, .ireturn, 1), (130, .aload_n 0, 1), (131, .getfield 94, 3), (134, .iload_n 1, 1), (135, .iaload, 1), (136, .ireturn, 1), (137, .aload_n 0, 1), (138, .getfield 97, 3), (141, .iload_n 1, 1), (142, .iaload, 1), (143, .ireturn, 1), (144, .aload_n 0, 1), (145, .getfield 100, 3), (148, .iload_n 1, 1), (149, .iaload, 1), (150, .ireturn, 1), (151, .aload_n 0, 1), (152, .getfield 76, 3), (155, .iload_n 1, 1), (156, .iaload, 1), (157, .aload_n 0, 1), (158, .getfield 73, 3), (161, .iload_n 1, 1), (162, .iaload, 1), (163, .isub, 1), (164, .ireturn, 1), (165, .aload_n 0, 1), (166, .getfield 103, 3), (169, .iload_n 1, 1), (170, .iaload, 1), (171, .ireturn, 1), (172, .bipush (-9), 2), (174, .ireturn, 1)] = true := by decide +kernel
theorem dX12_passage_122 : decode cX12_passage 122 = .ok (.ireturn, 1) := dk_at bX12_passage_122 0 rfl
theorem dX12_passage_123 : decode cX12_passage 123 = .ok (.aload_n 0, 1) := dk_at bX12_passage_122 1 rfl
theorem dX12_passage_124 : decode cX12_passage 124 = .ok (.getfield 91, 3) := dk_at bX12_passage_122 2 rfl
theorem dX12_passage_127 : decode cX12_passage 127 = .ok (.iload_n 1, 1) := dk_at bX12_passage_122 3 rfl
theorem dX12_passage_128 : decode cX12_passage 128 = .ok (.iaload, 1) := dk_at bX12_passage_122 4 rfl
theorem dX12_passage_129 : decode cX12_passage 129 = .ok (.ireturn, 1) := dk_at bX12_passage_122 5 rfl
theorem dX12_passage_130 : decode cX12_passage 130 = .ok (.aload_n 0, 1) := dk_at bX12_passage_122 6 rfl
theorem dX12_passage_131 : decode cX12_passage 131 = .ok (.getfield 94, 3) := dk_at bX12_passage_122 7 rfl
theorem dX12_passage_134 : decode cX12_passage 134 = .ok (.iload_n 1, 1) := dk_at bX12_passage_122 8 rfl
theorem dX12_passage_135 : decode cX12_passage 135 = .ok (.iaload, 1) := dk_at bX12_passage_122 9 rfl
theorem dX12_passage_136 : decode cX12_passage 136 = .ok (.ireturn, 1) := dk_at bX12_passage_122 10 rfl
theorem dX12_passage_137 : decode cX12_passage 137 = .ok (.aload_n 0, 1) := dk_at bX12_passage_122 11 rfl
theorem dX12_passage_138 : decode cX12_passage 138 = .ok (.getfield 97, 3) := dk_at bX12_passage_122 12 rfl
theorem dX12_passage_141 : decode cX12_passage 141 = .ok (.iload_n 1, 1) := dk_at bX12_passage_122 13 rfl
theorem dX12_passage_142 : decode cX12_passage 142 = .ok (.iaload, 1) := dk_at bX12_passage_122 14 rfl
theorem dX12_passage_143 : decode cX12_passage 143 = .ok (.ireturn, 1) := dk_at bX12_passage_122 15 rfl
theorem dX12_passage_144 : decode cX12_passage 144 = .ok (.aload_n 0, 1) := dk_at bX12_passage_122 16 rfl
theorem dX12_passage_145 : decode cX12_passage 145 = .ok (.getfield 100, 3) := dk_at bX12_passage_122 17 rfl
theorem dX12_passage_148 : decode cX12_passage 148 = .ok (.iload_n 1, 1) := dk_at bX12_passage_122 18 rfl
theorem dX12_passage_149 : decode cX12_passage 149 = .ok (.iaload, 1) := dk_at bX12_passage_122 19 rfl
theorem dX12_passage_150 : decode cX12_passage 150 = .ok (.ireturn, 1) := dk_at bX12_passage_122 20 rfl
theorem dX12_passage_151 : decode cX12_passage 151 = .ok (.aload_n 0, 1) := dk_at bX12_passage_122 21 rfl
theorem dX12_passage_152 : decode cX12_passage 152 = .ok (.getfield 76, 3) := dk_at bX12_passage_122 22 rfl
theorem dX12_passage_155 : decode cX12_passage 155 = .ok (.iload_n 1, 1) := dk_at bX12_passage_122 23 rfl
theorem dX12_passage_156 : decode cX12_passage 156 = .ok (.iaload, 1) := dk_at bX12_passage_122 24 rfl
theorem dX12_passage_157 : decode cX12_passage 157 = .ok (.aload_n 0, 1) := dk_at bX12_passage_122 25 rfl
theorem dX12_passage_158 : decode cX12_passage 158 = .ok (.getfield 73, 3) := dk_at bX12_passage_122 26 rfl
theorem dX12_passage_161 : decode cX12_passage 161 = .ok (.iload_n 1, 1) := dk_at bX12_passage_122 27 rfl
theorem dX12_passage_162 : decode cX12_passage 162 = .ok (.iaload, 1) := dk_at bX12_passage_122 28 rfl
theorem dX12_passage_163 : decode cX12_passage 163 = .ok (.isub, 1) := dk_at bX12_passage_122 29 rfl
theorem dX12_passage_164 : decode cX12_passage 164 = .ok (.ireturn, 1) := dk_at bX12_passage_122 30 rfl
theorem dX12_passage_165 : decode cX12_passage 165 = .ok (.aload_n 0, 1) := dk_at bX12_passage_122 31 rfl
theorem dX12_passage_166 : decode cX12_passage 166 = .ok (.getfield 103, 3) := dk_at bX12_passage_122 32 rfl
theorem dX12_passage_169 : decode cX12_passage 169 = .ok (.iload_n 1, 1) := dk_at bX12_passage_122 33 rfl
theorem dX12_passage_170 : decode cX12_passage 170 = .ok (.iaload, 1) := dk_at bX12_passage_122 34 rfl
theorem dX12_passage_171 : decode cX12_passage 171 = .ok (.ireturn, 1) := dk_at bX12_passage_122 35 rfl
theorem dX12_passage_172 : decode cX12_passage 172 = .ok (.bipush (-9), 2) := dk_at bX12_passage_122 36 rfl
theorem dX12_passage_174 : decode cX12_passage 174 = .ok (.ireturn, 1) := dk_at bX12_passage_122 37 rfl
set_option maxRecDepth 20000 in
theorem ggX12_boat_X12_isBoat : GoodIn wsX12_boat wsX12_isBoat := goodIn_r _ [6, 7, 8, 5, 9] rfl (by decide +kernel)
set_option maxRecDepth 20000 in
theorem gX12_boat_X12_isBoat : GoodIn wsX12_boat (va_wsS RX12 222 yX12_isBoat wsX12_isBoat) := goodIn_app (goodIn_r _ [3, 4, 5] rfl (by decide +kernel)) ggX12_boat_X12_isBoat
set_option maxRecDepth 20000 in
theorem ggX12_boat_X12_brokenOf : GoodIn wsX12_boat wsX12_brokenOf := goodIn_r _ [13, 2, 14, 15, 16, 17, 18, 19, 20, 21, 22, 23, 24, 25, 26, 27, 28, 29, 30, 31, 32, 33, 34, 35, 36, 37, 38, 39, 40, 41, 42, 43, 44, 45, 46, 47, 48, 49, 50, 51, 52, 53, 54, 55, 56, 57, 58, 59, 60, 61, 62, 63, 64, 65, 66, 67, 68, 69, 70, 71, 72] rfl (by decide +kernel)
set_option maxRecDepth 20000 in
theorem gX12_boat_X12_brokenOf : GoodIn wsX12_boat (wsV RX12 252 RX12 yX12_brokenOf wsX12_brokenOf) := goodIn_app (goodIn_r _ [10, 11, 12, 5] rfl (by decide +kernel)) ggX12_boat_X12_brokenOf
set_option maxRecDepth 20000 in
theorem ggX12_boat_X12_in : GoodIn wsX12_boat wsX12_in := goodIn_r _ [9] rfl (by decide +kernel)
set_option maxRecDepth 20000 in
theorem gX12_boat_X12_in : GoodIn wsX12_boat (va_wsS RX12 148 yX12_in wsX12_in) := goodIn_app (goodIn_r _ [7, 8, 5] rfl (by decide +kernel)) ggX12_boat_X12_in
theorem bX12_boat_0 : dk cX12_boat [(0, .iload_n 1, 1), (1, .invokestatic 222, 3), (4, .ifCond .ne 6, 3), (7, .bipush (-9), 2), (9, .ireturn, 1), (10, .iload_n 2, 1), (11, .ifCond .ne 12, 3), (14, .aload_n 0, 1), (15, .getfield 48, 3), (18, .iload_n 1, 1), (19, .iaload, 1), (20, .goto 45, 3), (23, .iload_n 2, 1), (24, .iconst 1, 1), (25, .if_icmp .ne 11, 3), (28, .aload_n 0, 1), (29, .iload_n 1, 1), (30, .invokevirtual 252, 3), (33, .goto 32, 3), (36, .iload_n 2, 1), (37, .bipush 10, 2), (39, .bipush 13, 2), (41, .invokestatic 148, 3), (44, .ifCond .eq 19, 3), (47, .aload_n 0, 1), (48, .getfield 51, 3), (51, .iconst 4, 1), (52, .iload_n 1, 1), (53, .imul, 1), (54, .iload_n 2, 1), (55, .iadd, 1), (56, .bipush 10, 2), (58, .isub, 1), (59, .iaload, 1), (60, .goto 5, 3), (63, .bipush (-9), 2), (65, .ireturn, 1)] = true := by decide +kernel
theorem dX12_boat_0 : decode cX12_boat 0 = .ok (.iload_n 1, 1) := dk_at bX12_boat_0 0 rfl
theorem dX12_boat_1 : decode cX12_boat 1 = .ok (.invokestatic 222, 3) := dk_at bX12_boat_0 1 rfl
theorem dX12_boat_4 : decode cX12_boat 4 = .ok (.ifCond .ne 6, 3) := dk_at bX12_boat_0 2 rfl
theorem dX12_boat_7 : decode cX12_boat 7 = .ok (.bipush (-9), 2) := dk_at bX12_boat_0 3 rfl
theorem dX12_boat_9 : decode cX12_boat 9 = .ok (.ireturn, 1) := dk_at bX12_boat_0 4 rfl
theorem dX12_boat_10 : decode cX12_boat 10 = .ok (.iload_n 2, 1) := dk_at bX12_boat_0 5 rfl
theorem dX12_boat_11 : decode cX12_boat 11 = .ok (.ifCond .ne 12, 3) := dk_at bX12_boat_0 6 rfl
theorem dX12_boat_14 : decode cX12_boat 14 = .ok (.aload_n 0, 1) := dk_at bX12_boat_0 7 rfl
theorem dX12_boat_15 : decode cX12_boat 15 = .ok (.getfield 48, 3) := dk_at bX12_boat_0 8 rfl
theorem dX12_boat_18 : decode cX12_boat 18 = .ok (.iload_n 1, 1) := dk_at bX12_boat_0 9 rfl
theorem dX12_boat_19 : decode cX12_boat 19 = .ok (.iaload, 1) := dk_at bX12_boat_0 10 rfl
theorem dX12_boat_20 : decode cX12_boat 20 = .ok (.goto 45, 3) := dk_at bX12_boat_0 11 rfl
theorem dX12_boat_23 : decode cX12_boat 23 = .ok (.iload_n 2, 1) := dk_at bX12_boat_0 12 rfl
theorem dX12_boat_24 : decode cX12_boat 24 = .ok (.iconst 1, 1) := dk_at bX12_boat_0 13 rfl
theorem dX12_boat_25 : decode cX12_boat 25 = .ok (.if_icmp .ne 11, 3) := dk_at bX12_boat_0 14 rfl
theorem dX12_boat_28 : decode cX12_boat 28 = .ok (.aload_n 0, 1) := dk_at bX12_boat_0 15 rfl
theorem dX12_boat_29 : decode cX12_boat 29 = .ok (.iload_n 1, 1) := dk_at bX12_boat_0 16 rfl
theorem dX12_boat_30 : decode cX12_boat 30 = .ok (.invokevirtual 252, 3) := dk_at bX12_boat_0 17 rfl
theorem dX12_boat_33 : decode cX12_boat 33 = .ok (.goto 32, 3) := dk_at bX12_boat_0 18 rfl
theorem dX12_boat_36 : decode cX12_boat 36 = .ok (.iload_n 2, 1) := dk_at bX12_boat_0 19 rfl
theorem dX12_boat_37 : decode cX12_boat 37 = .ok (.bipush 10, 2) := dk_at bX12_boat_0 20 rfl
theorem dX12_boat_39 : decode cX12_boat 39 = .ok (.bipush 13, 2) := dk_at bX12_boat_0 21 rfl
theorem dX12_boat_41 : decode cX12_boat 41 = .ok (.invokestatic 148, 3) := dk_at bX12_boat_0 22 rfl
theorem dX12_boat_44 : decode cX12_boat 44 = .ok (.ifCond .eq 19, 3) := dk_at bX12_boat_0 23 rfl
theorem dX12_boat_47 : decode cX12_boat 47 = .ok (.aload_n 0, 1) := dk_at bX12_boat_0 24 rfl
theorem dX12_boat_48 : decode cX12_boat 48 = .ok (.getfield 51, 3) := dk_at bX12_boat_0 25 rfl
theorem dX12_boat_51 : decode cX12_boat 51 = .ok (.iconst 4, 1) := dk_at bX12_boat_0 26 rfl
theorem dX12_boat_52 : decode cX12_boat 52 = .ok (.iload_n 1, 1) := dk_at bX12_boat_0 27 rfl
theorem dX12_boat_53 : decode cX12_boat 53 = .ok (.imul, 1) := dk_at bX12_boat_0 28 rfl
theorem dX12_boat_54 : decode cX12_boat 54 = .ok (.iload_n 2, 1) := dk_at bX12_boat_0 29 rfl
theorem dX12_boat_55 : decode cX12_boat 55 = .ok (.iadd, 1) := dk_at bX12_boat_0 30 rfl
theorem dX12_boat_56 : decode cX12_boat 56 = .ok (.bipush 10, 2) := dk_at bX12_boat_0 31 rfl
theorem dX12_boat_58 : decode cX12_boat 58 = .ok (.isub, 1) := dk_at bX12_boat_0 32 rfl
theorem dX12_boat_59 : decode cX12_boat 59 = .ok (.iaload, 1) := dk_at bX12_boat_0 33 rfl
theorem dX12_boat_60 : decode cX12_boat 60 = .ok (.goto 5, 3) := dk_at bX12_boat_0 34 rfl
theorem dX12_boat_63 : decode cX12_boat 63 = .ok (.bipush (-9), 2) := dk_at bX12_boat_0 35 rfl
theorem dX12_boat_65 : decode cX12_boat 65 = .ok (.ireturn, 1) := dk_at bX12_boat_0 36 rfl
set_option maxRecDepth 20000 in
theorem ggX12_pay_X12_isBoat : GoodIn wsX12_pay wsX12_isBoat := goodIn_r _ [13, 14, 15, 12, 16] rfl (by decide +kernel)
set_option maxRecDepth 20000 in
theorem gX12_pay_X12_isBoat : GoodIn wsX12_pay (va_wsS RX12 222 yX12_isBoat wsX12_isBoat) := goodIn_app (goodIn_r _ [10, 11, 12] rfl (by decide +kernel)) ggX12_pay_X12_isBoat
set_option maxRecDepth 20000 in
theorem ggX12_pay_X12_in : GoodIn wsX12_pay wsX12_in := goodIn_r _ [16] rfl (by decide +kernel)
set_option maxRecDepth 20000 in
theorem gX12_pay_X12_in : GoodIn wsX12_pay (va_wsS RX12 148 yX12_in wsX12_in) := goodIn_app (goodIn_r _ [14, 15, 12] rfl (by decide +kernel)) ggX12_pay_X12_in
theorem bX12_pay_0 : dk cX12_pay [(0, .iload_n 1, 1), (1, .invokestatic 222, 3), (4, .ifCond .eq 47, 3), (7, .iload_n 2, 1), (8, .iconst 0, 1), (9, .iconst 1, 1), (10, .invokestatic 148, 3), (13, .ifCond .eq 38, 3), (16, .iload_n 3, 1), (17, .iconst 0, 1), (18, .ldc_w 286, 3), (21, .invokestatic 148, 3), (24, .ifCond .eq 27, 3), (27, .iload 4, 2), (29, .iconst 0, 1), (30, .sipush 1000, 3), (33, .invokestatic 148, 3), (36, .ifCond .eq 15, 3), (39, .iload 5, 2), (41, .iconst 0, 1), (42, .sipush 1000, 3), (45, .invokestatic 148, 3), (48, .ifCond .ne 7, 3), (51, .ldc_w 287, 3), (54, .ireturn, 1), (55, .aload_n 0, 1), (56, .getfield 54, 3), (59, .iload_n 1, 1), (60, .baload, 1), (61, .ifCond .ne 7, 3), (64, .ldc_w 288, 3), (67, .ireturn, 1), (68, .iload_n 2, 1), (69, .ifCond .ne 18, 3), (72, .iload_n 3, 1), (73, .aload_n 0, 1), (74, .getfield 79, 3), (77, .iload_n 1, 1), (78, .iaload, 1), (79, .iconst 3, 1)] = true := by decide +kernel
theorem dX12_pay_0 : decode cX12_pay 0 = .ok (.iload_n 1, 1) := dk_at bX12_pay_0 0 rfl
theorem dX12_pay_1 : decode cX12_pay 1 = .ok (.invokestatic 222, 3) := dk_at bX12_pay_0 1 rfl
theorem dX12_pay_4 : decode cX12_pay 4 = .ok (.ifCond .eq 47, 3) := dk_at bX12_pay_0 2 rfl
theorem dX12_pay_7 : decode cX12_pay 7 = .ok (.iload_n 2, 1) := dk_at bX12_pay_0 3 rfl
theorem dX12_pay_8 : decode cX12_pay 8 = .ok (.iconst 0, 1) := dk_at bX12_pay_0 4 rfl
theorem dX12_pay_9 : decode cX12_pay 9 = .ok (.iconst 1, 1) := dk_at bX12_pay_0 5 rfl
theorem dX12_pay_10 : decode cX12_pay 10 = .ok (.invokestatic 148, 3) := dk_at bX12_pay_0 6 rfl
theorem dX12_pay_13 : decode cX12_pay 13 = .ok (.ifCond .eq 38, 3) := dk_at bX12_pay_0 7 rfl
theorem dX12_pay_16 : decode cX12_pay 16 = .ok (.iload_n 3, 1) := dk_at bX12_pay_0 8 rfl
theorem dX12_pay_17 : decode cX12_pay 17 = .ok (.iconst 0, 1) := dk_at bX12_pay_0 9 rfl
theorem dX12_pay_18 : decode cX12_pay 18 = .ok (.ldc_w 286, 3) := dk_at bX12_pay_0 10 rfl
theorem dX12_pay_21 : decode cX12_pay 21 = .ok (.invokestatic 148, 3) := dk_at bX12_pay_0 11 rfl
theorem dX12_pay_24 : decode cX12_pay 24 = .ok (.ifCond .eq 27, 3) := dk_at bX12_pay_0 12 rfl
theorem dX12_pay_27 : decode cX12_pay 27 = .ok (.iload 4, 2) := dk_at bX12_pay_0 13 rfl
theorem dX12_pay_29 : decode cX12_pay 29 = .ok (.iconst 0, 1) := dk_at bX12_pay_0 14 rfl
theorem dX12_pay_30 : decode cX12_pay 30 = .ok (.sipush 1000, 3) := dk_at bX12_pay_0 15 rfl
theorem dX12_pay_33 : decode cX12_pay 33 = .ok (.invokestatic 148, 3) := dk_at bX12_pay_0 16 rfl
theorem dX12_pay_36 : decode cX12_pay 36 = .ok (.ifCond .eq 15, 3) := dk_at bX12_pay_0 17 rfl
theorem dX12_pay_39 : decode cX12_pay 39 = .ok (.iload 5, 2) := dk_at bX12_pay_0 18 rfl
theorem dX12_pay_41 : decode cX12_pay 41 = .ok (.iconst 0, 1) := dk_at bX12_pay_0 19 rfl
theorem dX12_pay_42 : decode cX12_pay 42 = .ok (.sipush 1000, 3) := dk_at bX12_pay_0 20 rfl
theorem dX12_pay_45 : decode cX12_pay 45 = .ok (.invokestatic 148, 3) := dk_at bX12_pay_0 21 rfl
theorem dX12_pay_48 : decode cX12_pay 48 = .ok (.ifCond .ne 7, 3) := dk_at bX12_pay_0 22 rfl
theorem dX12_pay_51 : decode cX12_pay 51 = .ok (.ldc_w 287, 3) := dk_at bX12_pay_0 23 rfl
theorem dX12_pay_54 : decode cX12_pay 54 = .ok (.ireturn, 1) := dk_at bX12_pay_0 24 rfl
theorem dX12_pay_55 : decode cX12_pay 55 = .ok (.aload_n 0, 1) := dk_at bX12_pay_0 25 rfl
theorem dX12_pay_56 : decode cX12_pay 56 = .ok (.getfield 54, 3) := dk_at bX12_pay_0 26 rfl
theorem dX12_pay_59 : decode cX12_pay 59 = .ok (.iload_n 1, 1) := dk_at bX12_pay_0 27 rfl
theorem dX12_pay_60 : decode cX12_pay 60 = .ok (.baload, 1) := dk_at bX12_pay_0 28 rfl
theorem dX12_pay_61 : decode cX12_pay 61 = .ok (.ifCond .ne 7, 3) := dk_at bX12_pay_0 29 rfl
theorem dX12_pay_64 : decode cX12_pay 64 = .ok (.ldc_w 288, 3) := dk_at bX12_pay_0 30 rfl
theorem dX12_pay_67 : decode cX12_pay 67 = .ok (.ireturn, 1) := dk_at bX12_pay_0 31 rfl
theorem dX12_pay_68 : decode cX12_pay 68 = .ok (.iload_n 2, 1) := dk_at bX12_pay_0 32 rfl
theorem dX12_pay_69 : decode cX12_pay 69 = .ok (.ifCond .ne 18, 3) := dk_at bX12_pay_0 33 rfl
theorem dX12_pay_72 : decode cX12_pay 72 = .ok (.iload_n 3, 1) := dk_at bX12_pay_0 34 rfl
theorem dX12_pay_73 : decode cX12_pay 73 = .ok (.aload_n 0, 1) := dk_at bX12_pay_0 35 rfl
theorem dX12_pay_74 : decode cX12_pay 74 = .ok (.getfield 79, 3) := dk_at bX12_pay_0 36 rfl
theorem dX12_pay_77 : decode cX12_pay 77 = .ok (.iload_n 1, 1) := dk_at bX12_pay_0 37 rfl
theorem dX12_pay_78 : decode cX12_pay 78 = .ok (.iaload, 1) := dk_at bX12_pay_0 38 rfl
theorem dX12_pay_79 : decode cX12_pay 79 = .ok (.iconst 3, 1) := dk_at bX12_pay_0 39 rfl
theorem bX12_pay_80 : dk cX12_pay [(80, .iadd, 1), (81, .iconst 4, 1), (82, .idiv, 1), (83, .imul, 1), (84, .goto 27, 3), (87, .aload_n 0, 1), (88, .getfield 58, 3), (91, .iload_n 1, 1), (92, .iaload, 1), (93, .iconst 1, 1), (94, .if_icmp .ne 16, 3), (97, .aload_n 0, 1), (98, .getfield 88, 3), (101, .iload_n 1, 1), (102, .baload, 1), (103, .ifCond .ne 7, 3), (106, .iload_n 3, 1), (107, .goto 4, 3), (110, .iconst 0, 1), (111, .istore 6, 2), (113, .iload 6, 2), (115, .iload 4, 2), (117, .aload_n 0, 1), (118, .getfield 97, 3), (121, .iload_n 1, 1), (122, .iaload, 1), (123, .imul, 1), (124, .isub, 1), (125, .iload 5, 2), (127, .aload_n 0, 1), (128, .getfield 100, 3), (131, .iload_n 1, 1), (132, .iaload, 1), (133, .imul, 1), (134, .iadd, 1), (135, .ireturn, 1)] = true := by decide +kernel
theorem dX12_pay_80 : decode cX12_pay 80 = .ok (.iadd, 1) := dk_at bX12_pay_80 0 rfl
theorem dX12_pay_81 : decode cX12_pay 81 = .ok (.iconst 4, 1) := dk_at bX12_pay_80 1 rfl
theorem dX12_pay_82 : decode cX12_pay 82 = .ok (.idiv, 1) := dk_at bX12_pay_80 2 rfl
theorem dX12_pay_83 : decode cX12_pay 83 = .ok (.imul, 1) := dk_at bX12_pay_80 3 rfl
theorem dX12_pay_84 : decode cX12_pay 84 = .ok (.goto 27, 3) := dk_at bX12_pay_80 4 rfl
theorem dX12_pay_87 : decode cX12_pay 87 = .ok (.aload_n 0, 1) := dk_at bX12_pay_80 5 rfl
theorem dX12_pay_88 : decode cX12_pay 88 = .ok (.getfield 58, 3) := dk_at bX12_pay_80 6 rfl
theorem dX12_pay_91 : decode cX12_pay 91 = .ok (.iload_n 1, 1) := dk_at bX12_pay_80 7 rfl
theorem dX12_pay_92 : decode cX12_pay 92 = .ok (.iaload, 1) := dk_at bX12_pay_80 8 rfl
theorem dX12_pay_93 : decode cX12_pay 93 = .ok (.iconst 1, 1) := dk_at bX12_pay_80 9 rfl
theorem dX12_pay_94 : decode cX12_pay 94 = .ok (.if_icmp .ne 16, 3) := dk_at bX12_pay_80 10 rfl
theorem dX12_pay_97 : decode cX12_pay 97 = .ok (.aload_n 0, 1) := dk_at bX12_pay_80 11 rfl
theorem dX12_pay_98 : decode cX12_pay 98 = .ok (.getfield 88, 3) := dk_at bX12_pay_80 12 rfl
theorem dX12_pay_101 : decode cX12_pay 101 = .ok (.iload_n 1, 1) := dk_at bX12_pay_80 13 rfl
theorem dX12_pay_102 : decode cX12_pay 102 = .ok (.baload, 1) := dk_at bX12_pay_80 14 rfl
theorem dX12_pay_103 : decode cX12_pay 103 = .ok (.ifCond .ne 7, 3) := dk_at bX12_pay_80 15 rfl
theorem dX12_pay_106 : decode cX12_pay 106 = .ok (.iload_n 3, 1) := dk_at bX12_pay_80 16 rfl
theorem dX12_pay_107 : decode cX12_pay 107 = .ok (.goto 4, 3) := dk_at bX12_pay_80 17 rfl
theorem dX12_pay_110 : decode cX12_pay 110 = .ok (.iconst 0, 1) := dk_at bX12_pay_80 18 rfl
theorem dX12_pay_111 : decode cX12_pay 111 = .ok (.istore 6, 2) := dk_at bX12_pay_80 19 rfl
theorem dX12_pay_113 : decode cX12_pay 113 = .ok (.iload 6, 2) := dk_at bX12_pay_80 20 rfl
theorem dX12_pay_115 : decode cX12_pay 115 = .ok (.iload 4, 2) := dk_at bX12_pay_80 21 rfl
theorem dX12_pay_117 : decode cX12_pay 117 = .ok (.aload_n 0, 1) := dk_at bX12_pay_80 22 rfl
theorem dX12_pay_118 : decode cX12_pay 118 = .ok (.getfield 97, 3) := dk_at bX12_pay_80 23 rfl
theorem dX12_pay_121 : decode cX12_pay 121 = .ok (.iload_n 1, 1) := dk_at bX12_pay_80 24 rfl
theorem dX12_pay_122 : decode cX12_pay 122 = .ok (.iaload, 1) := dk_at bX12_pay_80 25 rfl
theorem dX12_pay_123 : decode cX12_pay 123 = .ok (.imul, 1) := dk_at bX12_pay_80 26 rfl
theorem dX12_pay_124 : decode cX12_pay 124 = .ok (.isub, 1) := dk_at bX12_pay_80 27 rfl
theorem dX12_pay_125 : decode cX12_pay 125 = .ok (.iload 5, 2) := dk_at bX12_pay_80 28 rfl
theorem dX12_pay_127 : decode cX12_pay 127 = .ok (.aload_n 0, 1) := dk_at bX12_pay_80 29 rfl
theorem dX12_pay_128 : decode cX12_pay 128 = .ok (.getfield 100, 3) := dk_at bX12_pay_80 30 rfl
theorem dX12_pay_131 : decode cX12_pay 131 = .ok (.iload_n 1, 1) := dk_at bX12_pay_80 31 rfl
theorem dX12_pay_132 : decode cX12_pay 132 = .ok (.iaload, 1) := dk_at bX12_pay_80 32 rfl
theorem dX12_pay_133 : decode cX12_pay 133 = .ok (.imul, 1) := dk_at bX12_pay_80 33 rfl
theorem dX12_pay_134 : decode cX12_pay 134 = .ok (.iadd, 1) := dk_at bX12_pay_80 34 rfl
theorem dX12_pay_135 : decode cX12_pay 135 = .ok (.ireturn, 1) := dk_at bX12_pay_80 35 rfl
set_option maxRecDepth 20000 in
theorem ggX12_deliver_X12_isPort : GoodIn wsX12_deliver wsX12_isPort := goodIn_r _ [11, 12, 13, 10, 14] rfl (by decide +kernel)
set_option maxRecDepth 20000 in
theorem gX12_deliver_X12_isPort : GoodIn wsX12_deliver (va_wsS RX12 233 yX12_isPort wsX12_isPort) := goodIn_app (goodIn_r _ [8, 9, 10] rfl (by decide +kernel)) ggX12_deliver_X12_isPort
set_option maxRecDepth 20000 in
theorem ggX12_deliver_X12_in : GoodIn wsX12_deliver wsX12_in := goodIn_r _ [14] rfl (by decide +kernel)
set_option maxRecDepth 20000 in
theorem gX12_deliver_X12_in : GoodIn wsX12_deliver (va_wsS RX12 148 yX12_in wsX12_in) := goodIn_app (goodIn_r _ [12, 13, 10] rfl (by decide +kernel)) ggX12_deliver_X12_in
theorem bX12_deliver_0 : dk cX12_deliver [(0, .iload_n 1, 1), (1, .invokestatic 233, 3), (4, .ifCond .eq 46, 3), (7, .iload_n 2, 1), (8, .invokestatic 233, 3), (11, .ifCond .eq 39, 3), (14, .iload_n 3, 1), (15, .iconst 1, 1), (16, .sipush 200, 3), (19, .invokestatic 148, 3), (22, .ifCond .eq 28, 3), (25, .iload 4, 2), (27, .iconst 0, 1), (28, .sipush 999, 3), (31, .invokestatic 148, 3), (34, .ifCond .eq 16, 3), (37, .iload 5, 2), (39, .iload 4, 2), (41, .sipush 999, 3), (44, .invokestatic 148, 3), (47, .ifCond .ne 6, 3), (50, .bipush (-2), 2), (52, .ireturn, 1), (53, .aload_n 0, 1), (54, .getfield 289, 3), (57, .bipush 7, 2), (59, .if_icmp .ne 6, 3), (62, .bipush (-3), 2), (64, .ireturn, 1), (65, .aload_n 0, 1), (66, .getfield 106, 3), (69, .aload_n 0, 1), (70, .getfield 289, 3), (73, .iload_n 1, 1), (74, .iastore, 1), (75, .aload_n 0, 1), (76, .getfield 109, 3), (79, .aload_n 0, 1), (80, .getfield 289, 3), (83, .iload_n 2, 1)] = true := by decide +kernel
theorem dX12_deliver_0 : decode cX12_deliver 0 = .ok (.iload_n 1, 1) := dk_at bX12_deliver_0 0 rfl
theorem dX12_deliver_1 : decode cX12_deliver 1 = .ok (.invokestatic 233, 3) := dk_at bX12_deliver_0 1 rfl
theorem dX12_deliver_4 : decode cX12_deliver 4 = .ok (.ifCond .eq 46, 3) := dk_at bX12_deliver_0 2 rfl
theorem dX12_deliver_7 : decode cX12_deliver 7 = .ok (.iload_n 2, 1) := dk_at bX12_deliver_0 3 rfl
theorem dX12_deliver_8 : decode cX12_deliver 8 = .ok (.invokestatic 233, 3) := dk_at bX12_deliver_0 4 rfl
theorem dX12_deliver_11 : decode cX12_deliver 11 = .ok (.ifCond .eq 39, 3) := dk_at bX12_deliver_0 5 rfl
theorem dX12_deliver_14 : decode cX12_deliver 14 = .ok (.iload_n 3, 1) := dk_at bX12_deliver_0 6 rfl
theorem dX12_deliver_15 : decode cX12_deliver 15 = .ok (.iconst 1, 1) := dk_at bX12_deliver_0 7 rfl
theorem dX12_deliver_16 : decode cX12_deliver 16 = .ok (.sipush 200, 3) := dk_at bX12_deliver_0 8 rfl
theorem dX12_deliver_19 : decode cX12_deliver 19 = .ok (.invokestatic 148, 3) := dk_at bX12_deliver_0 9 rfl
theorem dX12_deliver_22 : decode cX12_deliver 22 = .ok (.ifCond .eq 28, 3) := dk_at bX12_deliver_0 10 rfl
theorem dX12_deliver_25 : decode cX12_deliver 25 = .ok (.iload 4, 2) := dk_at bX12_deliver_0 11 rfl
theorem dX12_deliver_27 : decode cX12_deliver 27 = .ok (.iconst 0, 1) := dk_at bX12_deliver_0 12 rfl
theorem dX12_deliver_28 : decode cX12_deliver 28 = .ok (.sipush 999, 3) := dk_at bX12_deliver_0 13 rfl
theorem dX12_deliver_31 : decode cX12_deliver 31 = .ok (.invokestatic 148, 3) := dk_at bX12_deliver_0 14 rfl
theorem dX12_deliver_34 : decode cX12_deliver 34 = .ok (.ifCond .eq 16, 3) := dk_at bX12_deliver_0 15 rfl
theorem dX12_deliver_37 : decode cX12_deliver 37 = .ok (.iload 5, 2) := dk_at bX12_deliver_0 16 rfl
theorem dX12_deliver_39 : decode cX12_deliver 39 = .ok (.iload 4, 2) := dk_at bX12_deliver_0 17 rfl
theorem dX12_deliver_41 : decode cX12_deliver 41 = .ok (.sipush 999, 3) := dk_at bX12_deliver_0 18 rfl
theorem dX12_deliver_44 : decode cX12_deliver 44 = .ok (.invokestatic 148, 3) := dk_at bX12_deliver_0 19 rfl
theorem dX12_deliver_47 : decode cX12_deliver 47 = .ok (.ifCond .ne 6, 3) := dk_at bX12_deliver_0 20 rfl
theorem dX12_deliver_50 : decode cX12_deliver 50 = .ok (.bipush (-2), 2) := dk_at bX12_deliver_0 21 rfl
theorem dX12_deliver_52 : decode cX12_deliver 52 = .ok (.ireturn, 1) := dk_at bX12_deliver_0 22 rfl
theorem dX12_deliver_53 : decode cX12_deliver 53 = .ok (.aload_n 0, 1) := dk_at bX12_deliver_0 23 rfl
theorem dX12_deliver_54 : decode cX12_deliver 54 = .ok (.getfield 289, 3) := dk_at bX12_deliver_0 24 rfl
theorem dX12_deliver_57 : decode cX12_deliver 57 = .ok (.bipush 7, 2) := dk_at bX12_deliver_0 25 rfl
theorem dX12_deliver_59 : decode cX12_deliver 59 = .ok (.if_icmp .ne 6, 3) := dk_at bX12_deliver_0 26 rfl
theorem dX12_deliver_62 : decode cX12_deliver 62 = .ok (.bipush (-3), 2) := dk_at bX12_deliver_0 27 rfl
theorem dX12_deliver_64 : decode cX12_deliver 64 = .ok (.ireturn, 1) := dk_at bX12_deliver_0 28 rfl
theorem dX12_deliver_65 : decode cX12_deliver 65 = .ok (.aload_n 0, 1) := dk_at bX12_deliver_0 29 rfl
theorem dX12_deliver_66 : decode cX12_deliver 66 = .ok (.getfield 106, 3) := dk_at bX12_deliver_0 30 rfl
theorem dX12_deliver_69 : decode cX12_deliver 69 = .ok (.aload_n 0, 1) := dk_at bX12_deliver_0 31 rfl
theorem dX12_deliver_70 : decode cX12_deliver 70 = .ok (.getfield 289, 3) := dk_at bX12_deliver_0 32 rfl
theorem dX12_deliver_73 : decode cX12_deliver 73 = .ok (.iload_n 1, 1) := dk_at bX12_deliver_0 33 rfl
theorem dX12_deliver_74 : decode cX12_deliver 74 = .ok (.iastore, 1) := dk_at bX12_deliver_0 34 rfl
theorem dX12_deliver_75 : decode cX12_deliver 75 = .ok (.aload_n 0, 1) := dk_at bX12_deliver_0 35 rfl
theorem dX12_deliver_76 : decode cX12_deliver 76 = .ok (.getfield 109, 3) := dk_at bX12_deliver_0 36 rfl
theorem dX12_deliver_79 : decode cX12_deliver 79 = .ok (.aload_n 0, 1) := dk_at bX12_deliver_0 37 rfl
theorem dX12_deliver_80 : decode cX12_deliver 80 = .ok (.getfield 289, 3) := dk_at bX12_deliver_0 38 rfl
theorem dX12_deliver_83 : decode cX12_deliver 83 = .ok (.iload_n 2, 1) := dk_at bX12_deliver_0 39 rfl
theorem bX12_deliver_84 : dk cX12_deliver [(84, .iastore, 1), (85, .aload_n 0, 1), (86, .getfield 112, 3), (89, .aload_n 0, 1), (90, .getfield 289, 3), (93, .iload_n 3, 1), (94, .iastore, 1), (95, .aload_n 0, 1), (96, .getfield 115, 3), (99, .aload_n 0, 1), (100, .getfield 289, 3), (103, .iload 4, 2), (105, .iastore, 1), (106, .aload_n 0, 1), (107, .getfield 118, 3), (110, .aload_n 0, 1), (111, .getfield 289, 3), (114, .iload 5, 2), (116, .iastore, 1), (117, .aload_n 0, 1), (118, .dup, 1), (119, .getfield 289, 3), (122, .iconst 1, 1), (123, .iadd, 1), (124, .putfield 289, 3), (127, .aload_n 0, 1), (128, .iconst 0, 1), (129, .putfield 292, 3), (132, .aload_n 0, 1), (133, .getfield 289, 3), (136, .iconst 1, 1), (137, .isub, 1), (138, .ireturn, 1)] = true := by decide +kernel
theorem dX12_deliver_84 : decode cX12_deliver 84 = .ok (.iastore, 1) := dk_at bX12_deliver_84 0 rfl
theorem dX12_deliver_85 : decode cX12_deliver 85 = .ok (.aload_n 0, 1) := dk_at bX12_deliver_84 1 rfl
theorem dX12_deliver_86 : decode cX12_deliver 86 = .ok (.getfield 112, 3) := dk_at bX12_deliver_84 2 rfl
theorem dX12_deliver_89 : decode cX12_deliver 89 = .ok (.aload_n 0, 1) := dk_at bX12_deliver_84 3 rfl
theorem dX12_deliver_90 : decode cX12_deliver 90 = .ok (.getfield 289, 3) := dk_at bX12_deliver_84 4 rfl
theorem dX12_deliver_93 : decode cX12_deliver 93 = .ok (.iload_n 3, 1) := dk_at bX12_deliver_84 5 rfl
theorem dX12_deliver_94 : decode cX12_deliver 94 = .ok (.iastore, 1) := dk_at bX12_deliver_84 6 rfl
theorem dX12_deliver_95 : decode cX12_deliver 95 = .ok (.aload_n 0, 1) := dk_at bX12_deliver_84 7 rfl
theorem dX12_deliver_96 : decode cX12_deliver 96 = .ok (.getfield 115, 3) := dk_at bX12_deliver_84 8 rfl
theorem dX12_deliver_99 : decode cX12_deliver 99 = .ok (.aload_n 0, 1) := dk_at bX12_deliver_84 9 rfl
theorem dX12_deliver_100 : decode cX12_deliver 100 = .ok (.getfield 289, 3) := dk_at bX12_deliver_84 10 rfl
theorem dX12_deliver_103 : decode cX12_deliver 103 = .ok (.iload 4, 2) := dk_at bX12_deliver_84 11 rfl
theorem dX12_deliver_105 : decode cX12_deliver 105 = .ok (.iastore, 1) := dk_at bX12_deliver_84 12 rfl
theorem dX12_deliver_106 : decode cX12_deliver 106 = .ok (.aload_n 0, 1) := dk_at bX12_deliver_84 13 rfl
theorem dX12_deliver_107 : decode cX12_deliver 107 = .ok (.getfield 118, 3) := dk_at bX12_deliver_84 14 rfl
theorem dX12_deliver_110 : decode cX12_deliver 110 = .ok (.aload_n 0, 1) := dk_at bX12_deliver_84 15 rfl
theorem dX12_deliver_111 : decode cX12_deliver 111 = .ok (.getfield 289, 3) := dk_at bX12_deliver_84 16 rfl
theorem dX12_deliver_114 : decode cX12_deliver 114 = .ok (.iload 5, 2) := dk_at bX12_deliver_84 17 rfl
theorem dX12_deliver_116 : decode cX12_deliver 116 = .ok (.iastore, 1) := dk_at bX12_deliver_84 18 rfl
theorem dX12_deliver_117 : decode cX12_deliver 117 = .ok (.aload_n 0, 1) := dk_at bX12_deliver_84 19 rfl
theorem dX12_deliver_118 : decode cX12_deliver 118 = .ok (.dup, 1) := dk_at bX12_deliver_84 20 rfl
theorem dX12_deliver_119 : decode cX12_deliver 119 = .ok (.getfield 289, 3) := dk_at bX12_deliver_84 21 rfl
theorem dX12_deliver_122 : decode cX12_deliver 122 = .ok (.iconst 1, 1) := dk_at bX12_deliver_84 22 rfl
theorem dX12_deliver_123 : decode cX12_deliver 123 = .ok (.iadd, 1) := dk_at bX12_deliver_84 23 rfl
theorem dX12_deliver_124 : decode cX12_deliver 124 = .ok (.putfield 289, 3) := dk_at bX12_deliver_84 24 rfl
theorem dX12_deliver_127 : decode cX12_deliver 127 = .ok (.aload_n 0, 1) := dk_at bX12_deliver_84 25 rfl
theorem dX12_deliver_128 : decode cX12_deliver 128 = .ok (.iconst 0, 1) := dk_at bX12_deliver_84 26 rfl
theorem dX12_deliver_129 : decode cX12_deliver 129 = .ok (.putfield 292, 3) := dk_at bX12_deliver_84 27 rfl
theorem dX12_deliver_132 : decode cX12_deliver 132 = .ok (.aload_n 0, 1) := dk_at bX12_deliver_84 28 rfl
theorem dX12_deliver_133 : decode cX12_deliver 133 = .ok (.getfield 289, 3) := dk_at bX12_deliver_84 29 rfl
theorem dX12_deliver_136 : decode cX12_deliver 136 = .ok (.iconst 1, 1) := dk_at bX12_deliver_84 30 rfl
theorem dX12_deliver_137 : decode cX12_deliver 137 = .ok (.isub, 1) := dk_at bX12_deliver_84 31 rfl
theorem dX12_deliver_138 : decode cX12_deliver 138 = .ok (.ireturn, 1) := dk_at bX12_deliver_84 32 rfl
set_option maxRecDepth 20000 in
theorem ggX12_crew_X12_in : GoodIn wsX12_crew wsX12_in := goodIn_r _ [7] rfl (by decide +kernel)
set_option maxRecDepth 20000 in
theorem gX12_crew_X12_in : GoodIn wsX12_crew (va_wsS RX12 148 yX12_in wsX12_in) := goodIn_app (goodIn_r _ [4, 5, 6] rfl (by decide +kernel)) ggX12_crew_X12_in
set_option maxRecDepth 20000 in
theorem ggX12_crew_X12_isPort : GoodIn wsX12_crew wsX12_isPort := goodIn_r _ [10, 4, 5, 6, 7] rfl (by decide +kernel)
set_option maxRecDepth 20000 in
theorem gX12_crew_X12_isPort : GoodIn wsX12_crew (va_wsS RX12 233 yX12_isPort wsX12_isPort) := goodIn_app (goodIn_r _ [8, 9, 6] rfl (by decide +kernel)) ggX12_crew_X12_isPort
theorem bX12_crew_0 : dk cX12_crew [(0, .iload_n 1, 1), (1, .iconst 0, 1), (2, .iconst 3, 1), (3, .invokestatic 148, 3), (6, .ifCond .eq 21, 3), (9, .iload_n 2, 1), (10, .invokestatic 233, 3), (13, .ifCond .eq 14, 3), (16, .iload_n 3, 1), (17, .iconst 0, 1), (18, .sipush 999, 3), (21, .invokestatic 148, 3), (24, .ifCond .ne 6, 3), (27, .bipush (-2), 2), (29, .ireturn, 1), (30, .aload_n 0, 1), (31, .getfield 121, 3), (34, .iload_n 1, 1), (35, .iload_n 2, 1), (36, .iastore, 1), (37, .aload_n 0, 1), (38, .getfield 124, 3), (41, .iload_n 1, 1), (42, .iload_n 3, 1), (43, .iastore, 1), (44, .aload_n 0, 1), (45, .iconst 0, 1), (46, .putfield 292, 3), (49, .iconst 1, 1), (50, .ireturn, 1)] = true := by decide +kernel
theorem dX12_crew_0 : decode cX12_crew 0 = .ok (.iload_n 1, 1) := dk_at bX12_crew_0 0 rfl
theorem dX12_crew_1 : decode cX12_crew 1 = .ok (.iconst 0, 1) := dk_at bX12_crew_0 1 rfl
theorem dX12_crew_2 : decode cX12_crew 2 = .ok (.iconst 3, 1) := dk_at bX12_crew_0 2 rfl
theorem dX12_crew_3 : decode cX12_crew 3 = .ok (.invokestatic 148, 3) := dk_at bX12_crew_0 3 rfl
theorem dX12_crew_6 : decode cX12_crew 6 = .ok (.ifCond .eq 21, 3) := dk_at bX12_crew_0 4 rfl
theorem dX12_crew_9 : decode cX12_crew 9 = .ok (.iload_n 2, 1) := dk_at bX12_crew_0 5 rfl
theorem dX12_crew_10 : decode cX12_crew 10 = .ok (.invokestatic 233, 3) := dk_at bX12_crew_0 6 rfl
theorem dX12_crew_13 : decode cX12_crew 13 = .ok (.ifCond .eq 14, 3) := dk_at bX12_crew_0 7 rfl
theorem dX12_crew_16 : decode cX12_crew 16 = .ok (.iload_n 3, 1) := dk_at bX12_crew_0 8 rfl
theorem dX12_crew_17 : decode cX12_crew 17 = .ok (.iconst 0, 1) := dk_at bX12_crew_0 9 rfl
theorem dX12_crew_18 : decode cX12_crew 18 = .ok (.sipush 999, 3) := dk_at bX12_crew_0 10 rfl
theorem dX12_crew_21 : decode cX12_crew 21 = .ok (.invokestatic 148, 3) := dk_at bX12_crew_0 11 rfl
theorem dX12_crew_24 : decode cX12_crew 24 = .ok (.ifCond .ne 6, 3) := dk_at bX12_crew_0 12 rfl
theorem dX12_crew_27 : decode cX12_crew 27 = .ok (.bipush (-2), 2) := dk_at bX12_crew_0 13 rfl
theorem dX12_crew_29 : decode cX12_crew 29 = .ok (.ireturn, 1) := dk_at bX12_crew_0 14 rfl
theorem dX12_crew_30 : decode cX12_crew 30 = .ok (.aload_n 0, 1) := dk_at bX12_crew_0 15 rfl
theorem dX12_crew_31 : decode cX12_crew 31 = .ok (.getfield 121, 3) := dk_at bX12_crew_0 16 rfl
theorem dX12_crew_34 : decode cX12_crew 34 = .ok (.iload_n 1, 1) := dk_at bX12_crew_0 17 rfl
theorem dX12_crew_35 : decode cX12_crew 35 = .ok (.iload_n 2, 1) := dk_at bX12_crew_0 18 rfl
theorem dX12_crew_36 : decode cX12_crew 36 = .ok (.iastore, 1) := dk_at bX12_crew_0 19 rfl
theorem dX12_crew_37 : decode cX12_crew 37 = .ok (.aload_n 0, 1) := dk_at bX12_crew_0 20 rfl
theorem dX12_crew_38 : decode cX12_crew 38 = .ok (.getfield 124, 3) := dk_at bX12_crew_0 21 rfl
theorem dX12_crew_41 : decode cX12_crew 41 = .ok (.iload_n 1, 1) := dk_at bX12_crew_0 22 rfl
theorem dX12_crew_42 : decode cX12_crew 42 = .ok (.iload_n 3, 1) := dk_at bX12_crew_0 23 rfl
theorem dX12_crew_43 : decode cX12_crew 43 = .ok (.iastore, 1) := dk_at bX12_crew_0 24 rfl
theorem dX12_crew_44 : decode cX12_crew 44 = .ok (.aload_n 0, 1) := dk_at bX12_crew_0 25 rfl
theorem dX12_crew_45 : decode cX12_crew 45 = .ok (.iconst 0, 1) := dk_at bX12_crew_0 26 rfl
theorem dX12_crew_46 : decode cX12_crew 46 = .ok (.putfield 292, 3) := dk_at bX12_crew_0 27 rfl
theorem dX12_crew_49 : decode cX12_crew 49 = .ok (.iconst 1, 1) := dk_at bX12_crew_0 28 rfl
theorem dX12_crew_50 : decode cX12_crew 50 = .ok (.ireturn, 1) := dk_at bX12_crew_0 29 rfl
set_option maxRecDepth 20000 in
theorem ggX12_flight_X12_isPort : GoodIn wsX12_flight wsX12_isPort := goodIn_r _ [6, 7, 8, 5, 9] rfl (by decide +kernel)
set_option maxRecDepth 20000 in
theorem gX12_flight_X12_isPort : GoodIn wsX12_flight (va_wsS RX12 233 yX12_isPort wsX12_isPort) := goodIn_app (goodIn_r _ [3, 4, 5] rfl (by decide +kernel)) ggX12_flight_X12_isPort
set_option maxRecDepth 20000 in
theorem ggX12_flight_X12_in : GoodIn wsX12_flight wsX12_in := goodIn_r _ [9] rfl (by decide +kernel)
set_option maxRecDepth 20000 in
theorem gX12_flight_X12_in : GoodIn wsX12_flight (va_wsS RX12 148 yX12_in wsX12_in) := goodIn_app (goodIn_r _ [7, 8, 5] rfl (by decide +kernel)) ggX12_flight_X12_in
theorem bX12_flight_0 : dk cX12_flight [(0, .iload_n 1, 1), (1, .invokestatic 233, 3), (4, .ifCond .eq 26, 3), (7, .iload_n 2, 1), (8, .invokestatic 233, 3), (11, .ifCond .eq 19, 3), (14, .iload_n 1, 1), (15, .iload_n 2, 1), (16, .if_icmp .eq 14, 3), (19, .iload_n 3, 1), (20, .iconst (-1), 1), (21, .sipush 10000, 3), (24, .invokestatic 148, 3), (27, .ifCond .ne 6, 3), (30, .bipush (-2), 2), (32, .ireturn, 1), (33, .aload_n 0, 1), (34, .getfield 127, 3), (37, .bipush 10, 2), (39, .iload_n 1, 1), (40, .imul, 1), (41, .iload_n 2, 1), (42, .iadd, 1), (43, .iaload, 1), (44, .istore 4, 2), (46, .aload_n 0, 1), (47, .getfield 127, 3), (50, .bipush 10, 2), (52, .iload_n 1, 1), (53, .imul, 1), (54, .iload_n 2, 1), (55, .iadd, 1), (56, .iload_n 3, 1), (57, .iastore, 1), (58, .aload_n 0, 1), (59, .getfield 127, 3), (62, .bipush 10, 2), (64, .iload_n 2, 1), (65, .imul, 1), (66, .iload_n 1, 1)] = true := by decide +kernel
theorem dX12_flight_0 : decode cX12_flight 0 = .ok (.iload_n 1, 1) := dk_at bX12_flight_0 0 rfl
theorem dX12_flight_1 : decode cX12_flight 1 = .ok (.invokestatic 233, 3) := dk_at bX12_flight_0 1 rfl
theorem dX12_flight_4 : decode cX12_flight 4 = .ok (.ifCond .eq 26, 3) := dk_at bX12_flight_0 2 rfl
theorem dX12_flight_7 : decode cX12_flight 7 = .ok (.iload_n 2, 1) := dk_at bX12_flight_0 3 rfl
theorem dX12_flight_8 : decode cX12_flight 8 = .ok (.invokestatic 233, 3) := dk_at bX12_flight_0 4 rfl
theorem dX12_flight_11 : decode cX12_flight 11 = .ok (.ifCond .eq 19, 3) := dk_at bX12_flight_0 5 rfl
theorem dX12_flight_14 : decode cX12_flight 14 = .ok (.iload_n 1, 1) := dk_at bX12_flight_0 6 rfl
theorem dX12_flight_15 : decode cX12_flight 15 = .ok (.iload_n 2, 1) := dk_at bX12_flight_0 7 rfl
theorem dX12_flight_16 : decode cX12_flight 16 = .ok (.if_icmp .eq 14, 3) := dk_at bX12_flight_0 8 rfl
theorem dX12_flight_19 : decode cX12_flight 19 = .ok (.iload_n 3, 1) := dk_at bX12_flight_0 9 rfl
theorem dX12_flight_20 : decode cX12_flight 20 = .ok (.iconst (-1), 1) := dk_at bX12_flight_0 10 rfl
theorem dX12_flight_21 : decode cX12_flight 21 = .ok (.sipush 10000, 3) := dk_at bX12_flight_0 11 rfl
theorem dX12_flight_24 : decode cX12_flight 24 = .ok (.invokestatic 148, 3) := dk_at bX12_flight_0 12 rfl
theorem dX12_flight_27 : decode cX12_flight 27 = .ok (.ifCond .ne 6, 3) := dk_at bX12_flight_0 13 rfl
theorem dX12_flight_30 : decode cX12_flight 30 = .ok (.bipush (-2), 2) := dk_at bX12_flight_0 14 rfl
theorem dX12_flight_32 : decode cX12_flight 32 = .ok (.ireturn, 1) := dk_at bX12_flight_0 15 rfl
theorem dX12_flight_33 : decode cX12_flight 33 = .ok (.aload_n 0, 1) := dk_at bX12_flight_0 16 rfl
theorem dX12_flight_34 : decode cX12_flight 34 = .ok (.getfield 127, 3) := dk_at bX12_flight_0 17 rfl
theorem dX12_flight_37 : decode cX12_flight 37 = .ok (.bipush 10, 2) := dk_at bX12_flight_0 18 rfl
theorem dX12_flight_39 : decode cX12_flight 39 = .ok (.iload_n 1, 1) := dk_at bX12_flight_0 19 rfl
theorem dX12_flight_40 : decode cX12_flight 40 = .ok (.imul, 1) := dk_at bX12_flight_0 20 rfl
theorem dX12_flight_41 : decode cX12_flight 41 = .ok (.iload_n 2, 1) := dk_at bX12_flight_0 21 rfl
theorem dX12_flight_42 : decode cX12_flight 42 = .ok (.iadd, 1) := dk_at bX12_flight_0 22 rfl
theorem dX12_flight_43 : decode cX12_flight 43 = .ok (.iaload, 1) := dk_at bX12_flight_0 23 rfl
theorem dX12_flight_44 : decode cX12_flight 44 = .ok (.istore 4, 2) := dk_at bX12_flight_0 24 rfl
theorem dX12_flight_46 : decode cX12_flight 46 = .ok (.aload_n 0, 1) := dk_at bX12_flight_0 25 rfl
theorem dX12_flight_47 : decode cX12_flight 47 = .ok (.getfield 127, 3) := dk_at bX12_flight_0 26 rfl
theorem dX12_flight_50 : decode cX12_flight 50 = .ok (.bipush 10, 2) := dk_at bX12_flight_0 27 rfl
theorem dX12_flight_52 : decode cX12_flight 52 = .ok (.iload_n 1, 1) := dk_at bX12_flight_0 28 rfl
theorem dX12_flight_53 : decode cX12_flight 53 = .ok (.imul, 1) := dk_at bX12_flight_0 29 rfl
theorem dX12_flight_54 : decode cX12_flight 54 = .ok (.iload_n 2, 1) := dk_at bX12_flight_0 30 rfl
theorem dX12_flight_55 : decode cX12_flight 55 = .ok (.iadd, 1) := dk_at bX12_flight_0 31 rfl
theorem dX12_flight_56 : decode cX12_flight 56 = .ok (.iload_n 3, 1) := dk_at bX12_flight_0 32 rfl
theorem dX12_flight_57 : decode cX12_flight 57 = .ok (.iastore, 1) := dk_at bX12_flight_0 33 rfl
theorem dX12_flight_58 : decode cX12_flight 58 = .ok (.aload_n 0, 1) := dk_at bX12_flight_0 34 rfl
theorem dX12_flight_59 : decode cX12_flight 59 = .ok (.getfield 127, 3) := dk_at bX12_flight_0 35 rfl
theorem dX12_flight_62 : decode cX12_flight 62 = .ok (.bipush 10, 2) := dk_at bX12_flight_0 36 rfl
theorem dX12_flight_64 : decode cX12_flight 64 = .ok (.iload_n 2, 1) := dk_at bX12_flight_0 37 rfl
theorem dX12_flight_65 : decode cX12_flight 65 = .ok (.imul, 1) := dk_at bX12_flight_0 38 rfl
theorem dX12_flight_66 : decode cX12_flight 66 = .ok (.iload_n 1, 1) := dk_at bX12_flight_0 39 rfl
theorem bX12_flight_67 : dk cX12_flight [(67, .iadd, 1), (68, .iload_n 3, 1), (69, .iastore, 1), (70, .aload_n 0, 1), (71, .iconst 0, 1), (72, .putfield 292, 3), (75, .iload 4, 2), (77, .ireturn, 1)] = true := by decide +kernel
theorem dX12_flight_67 : decode cX12_flight 67 = .ok (.iadd, 1) := dk_at bX12_flight_67 0 rfl
theorem dX12_flight_68 : decode cX12_flight 68 = .ok (.iload_n 3, 1) := dk_at bX12_flight_67 1 rfl
theorem dX12_flight_69 : decode cX12_flight 69 = .ok (.iastore, 1) := dk_at bX12_flight_67 2 rfl
theorem dX12_flight_70 : decode cX12_flight 70 = .ok (.aload_n 0, 1) := dk_at bX12_flight_67 3 rfl
theorem dX12_flight_71 : decode cX12_flight 71 = .ok (.iconst 0, 1) := dk_at bX12_flight_67 4 rfl
theorem dX12_flight_72 : decode cX12_flight 72 = .ok (.putfield 292, 3) := dk_at bX12_flight_67 5 rfl
theorem dX12_flight_75 : decode cX12_flight 75 = .ok (.iload 4, 2) := dk_at bX12_flight_67 6 rfl
theorem dX12_flight_77 : decode cX12_flight 77 = .ok (.ireturn, 1) := dk_at bX12_flight_67 7 rfl
set_option maxRecDepth 20000 in
theorem ggX12_tries_X12_tries : GoodIn wsX12_tries wsX12_tries := goodIn_r _ [0, 1, 2, 3, 4, 5, 6, 7, 8, 9, 10, 11, 12, 13, 14, 15, 16, 17, 18, 19, 20, 21, 22, 23, 24, 25, 26, 27, 28, 29, 30, 31, 32, 33, 34, 35, 36, 37, 38, 39, 40, 41, 42, 43, 44, 45, 46, 47, 48, 49, 50, 51, 52, 53, 54, 55, 56, 57, 58, 59, 60, 61, 62, 63, 64, 65, 66, 67, 68, 69, 70, 71, 72] rfl (by decide +kernel)
set_option maxRecDepth 20000 in
theorem gX12_tries_X12_tries : GoodIn wsX12_tries (wsV RX12 296 RX12 yX12_tries wsX12_tries) := goodIn_app (goodIn_r _ [10, 11, 12, 13] rfl (by decide +kernel)) ggX12_tries_X12_tries
theorem bX12_tries_0 : dk cX12_tries [(0, .sipush 128, 3), (3, .iload_n 1, 1), (4, .imul, 1), (5, .iload 4, 2), (7, .iadd, 1), (8, .istore 7, 2), (10, .aload_n 0, 1), (11, .getfield 130, 3), (14, .iload 7, 2), (16, .iaload, 1), (17, .iconst (-1), 1), (18, .if_icmp .eq 39, 3), (21, .iload 6, 2), (23, .aload_n 0, 1), (24, .getfield 130, 3), (27, .iload 7, 2), (29, .iaload, 1), (30, .if_icmp .lt 27, 3), (33, .iload 6, 2), (35, .aload_n 0, 1), (36, .getfield 130, 3), (39, .iload 7, 2), (41, .iaload, 1), (42, .if_icmp .ne 33, 3), (45, .iload 5, 2), (47, .aload_n 0, 1), (48, .getfield 133, 3), (51, .iload 7, 2), (53, .iaload, 1), (54, .if_icmp .ge 21, 3), (57, .aload_n 0, 1), (58, .getfield 130, 3), (61, .iload 7, 2), (63, .iload 6, 2), (65, .iastore, 1), (66, .aload_n 0, 1), (67, .getfield 133, 3), (70, .iload 7, 2), (72, .iload 5, 2), (74, .iastore, 1)] = true := by decide +kernel
theorem dX12_tries_0 : decode cX12_tries 0 = .ok (.sipush 128, 3) := dk_at bX12_tries_0 0 rfl
theorem dX12_tries_3 : decode cX12_tries 3 = .ok (.iload_n 1, 1) := dk_at bX12_tries_0 1 rfl
theorem dX12_tries_4 : decode cX12_tries 4 = .ok (.imul, 1) := dk_at bX12_tries_0 2 rfl
theorem dX12_tries_5 : decode cX12_tries 5 = .ok (.iload 4, 2) := dk_at bX12_tries_0 3 rfl
theorem dX12_tries_7 : decode cX12_tries 7 = .ok (.iadd, 1) := dk_at bX12_tries_0 4 rfl
theorem dX12_tries_8 : decode cX12_tries 8 = .ok (.istore 7, 2) := dk_at bX12_tries_0 5 rfl
theorem dX12_tries_10 : decode cX12_tries 10 = .ok (.aload_n 0, 1) := dk_at bX12_tries_0 6 rfl
theorem dX12_tries_11 : decode cX12_tries 11 = .ok (.getfield 130, 3) := dk_at bX12_tries_0 7 rfl
theorem dX12_tries_14 : decode cX12_tries 14 = .ok (.iload 7, 2) := dk_at bX12_tries_0 8 rfl
theorem dX12_tries_16 : decode cX12_tries 16 = .ok (.iaload, 1) := dk_at bX12_tries_0 9 rfl
theorem dX12_tries_17 : decode cX12_tries 17 = .ok (.iconst (-1), 1) := dk_at bX12_tries_0 10 rfl
theorem dX12_tries_18 : decode cX12_tries 18 = .ok (.if_icmp .eq 39, 3) := dk_at bX12_tries_0 11 rfl
theorem dX12_tries_21 : decode cX12_tries 21 = .ok (.iload 6, 2) := dk_at bX12_tries_0 12 rfl
theorem dX12_tries_23 : decode cX12_tries 23 = .ok (.aload_n 0, 1) := dk_at bX12_tries_0 13 rfl
theorem dX12_tries_24 : decode cX12_tries 24 = .ok (.getfield 130, 3) := dk_at bX12_tries_0 14 rfl
theorem dX12_tries_27 : decode cX12_tries 27 = .ok (.iload 7, 2) := dk_at bX12_tries_0 15 rfl
theorem dX12_tries_29 : decode cX12_tries 29 = .ok (.iaload, 1) := dk_at bX12_tries_0 16 rfl
theorem dX12_tries_30 : decode cX12_tries 30 = .ok (.if_icmp .lt 27, 3) := dk_at bX12_tries_0 17 rfl
theorem dX12_tries_33 : decode cX12_tries 33 = .ok (.iload 6, 2) := dk_at bX12_tries_0 18 rfl
theorem dX12_tries_35 : decode cX12_tries 35 = .ok (.aload_n 0, 1) := dk_at bX12_tries_0 19 rfl
theorem dX12_tries_36 : decode cX12_tries 36 = .ok (.getfield 130, 3) := dk_at bX12_tries_0 20 rfl
theorem dX12_tries_39 : decode cX12_tries 39 = .ok (.iload 7, 2) := dk_at bX12_tries_0 21 rfl
theorem dX12_tries_41 : decode cX12_tries 41 = .ok (.iaload, 1) := dk_at bX12_tries_0 22 rfl
theorem dX12_tries_42 : decode cX12_tries 42 = .ok (.if_icmp .ne 33, 3) := dk_at bX12_tries_0 23 rfl
theorem dX12_tries_45 : decode cX12_tries 45 = .ok (.iload 5, 2) := dk_at bX12_tries_0 24 rfl
theorem dX12_tries_47 : decode cX12_tries 47 = .ok (.aload_n 0, 1) := dk_at bX12_tries_0 25 rfl
theorem dX12_tries_48 : decode cX12_tries 48 = .ok (.getfield 133, 3) := dk_at bX12_tries_0 26 rfl
theorem dX12_tries_51 : decode cX12_tries 51 = .ok (.iload 7, 2) := dk_at bX12_tries_0 27 rfl
theorem dX12_tries_53 : decode cX12_tries 53 = .ok (.iaload, 1) := dk_at bX12_tries_0 28 rfl
theorem dX12_tries_54 : decode cX12_tries 54 = .ok (.if_icmp .ge 21, 3) := dk_at bX12_tries_0 29 rfl
theorem dX12_tries_57 : decode cX12_tries 57 = .ok (.aload_n 0, 1) := dk_at bX12_tries_0 30 rfl
theorem dX12_tries_58 : decode cX12_tries 58 = .ok (.getfield 130, 3) := dk_at bX12_tries_0 31 rfl
theorem dX12_tries_61 : decode cX12_tries 61 = .ok (.iload 7, 2) := dk_at bX12_tries_0 32 rfl
theorem dX12_tries_63 : decode cX12_tries 63 = .ok (.iload 6, 2) := dk_at bX12_tries_0 33 rfl
theorem dX12_tries_65 : decode cX12_tries 65 = .ok (.iastore, 1) := dk_at bX12_tries_0 34 rfl
theorem dX12_tries_66 : decode cX12_tries 66 = .ok (.aload_n 0, 1) := dk_at bX12_tries_0 35 rfl
theorem dX12_tries_67 : decode cX12_tries 67 = .ok (.getfield 133, 3) := dk_at bX12_tries_0 36 rfl
theorem dX12_tries_70 : decode cX12_tries 70 = .ok (.iload 7, 2) := dk_at bX12_tries_0 37 rfl
theorem dX12_tries_72 : decode cX12_tries 72 = .ok (.iload 5, 2) := dk_at bX12_tries_0 38 rfl
theorem dX12_tries_74 : decode cX12_tries 74 = .ok (.iastore, 1) := dk_at bX12_tries_0 39 rfl
theorem bX12_tries_75 : dk cX12_tries [(75, .iconst 0, 1), (76, .istore 8, 2), (78, .iload 8, 2), (80, .aload_n 0, 1), (81, .getfield 289, 3), (84, .if_icmp .ge 162, 3), (87, .iload 4, 2), (89, .iload 8, 2), (91, .ishr, 1), (92, .iconst 1, 1), (93, .iand, 1), (94, .iconst 1, 1), (95, .if_icmp .eq 145, 3), (98, .aload_n 0, 1), (99, .getfield 127, 3), (102, .bipush 10, 2), (104, .iload_n 2, 1), (105, .imul, 1), (106, .aload_n 0, 1), (107, .getfield 106, 3), (110, .iload 8, 2), (112, .iaload, 1), (113, .iadd, 1), (114, .iaload, 1), (115, .iconst (-1), 1), (116, .if_icmp .ne 6, 3), (119, .goto 121, 3), (122, .iload_n 3, 1), (123, .iload_n 2, 1), (124, .aload_n 0, 1), (125, .getfield 106, 3), (128, .iload 8, 2), (130, .iaload, 1), (131, .if_icmp .ne 7, 3), (134, .iconst 0, 1), (135, .goto 4, 3), (138, .iconst 1, 1), (139, .iadd, 1), (140, .istore 9, 2), (142, .iload 9, 2)] = true := by decide +kernel
theorem dX12_tries_75 : decode cX12_tries 75 = .ok (.iconst 0, 1) := dk_at bX12_tries_75 0 rfl
theorem dX12_tries_76 : decode cX12_tries 76 = .ok (.istore 8, 2) := dk_at bX12_tries_75 1 rfl
theorem dX12_tries_78 : decode cX12_tries 78 = .ok (.iload 8, 2) := dk_at bX12_tries_75 2 rfl
theorem dX12_tries_80 : decode cX12_tries 80 = .ok (.aload_n 0, 1) := dk_at bX12_tries_75 3 rfl
theorem dX12_tries_81 : decode cX12_tries 81 = .ok (.getfield 289, 3) := dk_at bX12_tries_75 4 rfl
theorem dX12_tries_84 : decode cX12_tries 84 = .ok (.if_icmp .ge 162, 3) := dk_at bX12_tries_75 5 rfl
theorem dX12_tries_87 : decode cX12_tries 87 = .ok (.iload 4, 2) := dk_at bX12_tries_75 6 rfl
theorem dX12_tries_89 : decode cX12_tries 89 = .ok (.iload 8, 2) := dk_at bX12_tries_75 7 rfl
theorem dX12_tries_91 : decode cX12_tries 91 = .ok (.ishr, 1) := dk_at bX12_tries_75 8 rfl
theorem dX12_tries_92 : decode cX12_tries 92 = .ok (.iconst 1, 1) := dk_at bX12_tries_75 9 rfl
theorem dX12_tries_93 : decode cX12_tries 93 = .ok (.iand, 1) := dk_at bX12_tries_75 10 rfl
theorem dX12_tries_94 : decode cX12_tries 94 = .ok (.iconst 1, 1) := dk_at bX12_tries_75 11 rfl
theorem dX12_tries_95 : decode cX12_tries 95 = .ok (.if_icmp .eq 145, 3) := dk_at bX12_tries_75 12 rfl
theorem dX12_tries_98 : decode cX12_tries 98 = .ok (.aload_n 0, 1) := dk_at bX12_tries_75 13 rfl
theorem dX12_tries_99 : decode cX12_tries 99 = .ok (.getfield 127, 3) := dk_at bX12_tries_75 14 rfl
theorem dX12_tries_102 : decode cX12_tries 102 = .ok (.bipush 10, 2) := dk_at bX12_tries_75 15 rfl
theorem dX12_tries_104 : decode cX12_tries 104 = .ok (.iload_n 2, 1) := dk_at bX12_tries_75 16 rfl
theorem dX12_tries_105 : decode cX12_tries 105 = .ok (.imul, 1) := dk_at bX12_tries_75 17 rfl
theorem dX12_tries_106 : decode cX12_tries 106 = .ok (.aload_n 0, 1) := dk_at bX12_tries_75 18 rfl
theorem dX12_tries_107 : decode cX12_tries 107 = .ok (.getfield 106, 3) := dk_at bX12_tries_75 19 rfl
theorem dX12_tries_110 : decode cX12_tries 110 = .ok (.iload 8, 2) := dk_at bX12_tries_75 20 rfl
theorem dX12_tries_112 : decode cX12_tries 112 = .ok (.iaload, 1) := dk_at bX12_tries_75 21 rfl
theorem dX12_tries_113 : decode cX12_tries 113 = .ok (.iadd, 1) := dk_at bX12_tries_75 22 rfl
theorem dX12_tries_114 : decode cX12_tries 114 = .ok (.iaload, 1) := dk_at bX12_tries_75 23 rfl
theorem dX12_tries_115 : decode cX12_tries 115 = .ok (.iconst (-1), 1) := dk_at bX12_tries_75 24 rfl
theorem dX12_tries_116 : decode cX12_tries 116 = .ok (.if_icmp .ne 6, 3) := dk_at bX12_tries_75 25 rfl
theorem dX12_tries_119 : decode cX12_tries 119 = .ok (.goto 121, 3) := dk_at bX12_tries_75 26 rfl
theorem dX12_tries_122 : decode cX12_tries 122 = .ok (.iload_n 3, 1) := dk_at bX12_tries_75 27 rfl
theorem dX12_tries_123 : decode cX12_tries 123 = .ok (.iload_n 2, 1) := dk_at bX12_tries_75 28 rfl
theorem dX12_tries_124 : decode cX12_tries 124 = .ok (.aload_n 0, 1) := dk_at bX12_tries_75 29 rfl
theorem dX12_tries_125 : decode cX12_tries 125 = .ok (.getfield 106, 3) := dk_at bX12_tries_75 30 rfl
theorem dX12_tries_128 : decode cX12_tries 128 = .ok (.iload 8, 2) := dk_at bX12_tries_75 31 rfl
theorem dX12_tries_130 : decode cX12_tries 130 = .ok (.iaload, 1) := dk_at bX12_tries_75 32 rfl
theorem dX12_tries_131 : decode cX12_tries 131 = .ok (.if_icmp .ne 7, 3) := dk_at bX12_tries_75 33 rfl
theorem dX12_tries_134 : decode cX12_tries 134 = .ok (.iconst 0, 1) := dk_at bX12_tries_75 34 rfl
theorem dX12_tries_135 : decode cX12_tries 135 = .ok (.goto 4, 3) := dk_at bX12_tries_75 35 rfl
theorem dX12_tries_138 : decode cX12_tries 138 = .ok (.iconst 1, 1) := dk_at bX12_tries_75 36 rfl
theorem dX12_tries_139 : decode cX12_tries 139 = .ok (.iadd, 1) := dk_at bX12_tries_75 37 rfl
theorem dX12_tries_140 : decode cX12_tries 140 = .ok (.istore 9, 2) := dk_at bX12_tries_75 38 rfl
theorem dX12_tries_142 : decode cX12_tries 142 = .ok (.iload 9, 2) := dk_at bX12_tries_75 39 rfl
theorem bX12_tries_144 : dk cX12_tries [(144, .aload_n 0, 1), (145, .getfield 115, 3), (148, .iload 8, 2), (150, .iaload, 1), (151, .if_icmp .le 8, 3), (154, .iload 9, 2), (156, .goto 10, 3), (159, .aload_n 0, 1), (160, .getfield 115, 3), (163, .iload 8, 2), (165, .iaload, 1), (166, .istore 10, 2), (168, .iload 10, 2), (170, .aload_n 0, 1), (171, .getfield 118, 3), (174, .iload 8, 2), (176, .iaload, 1), (177, .if_icmp .le 6, 3), (180, .goto 60, 3), (183, .aload_n 0, 1), (184, .iload_n 1, 1), (185, .aload_n 0, 1), (186, .getfield 109, 3), (189, .iload 8, 2), (191, .iaload, 1), (192, .iload 10, 2), (194, .aload_n 0, 1), (195, .getfield 112, 3), (198, .iload 8, 2), (200, .iaload, 1), (201, .iadd, 1), (202, .iload 4, 2), (204, .iconst 1, 1), (205, .iload 8, 2), (207, .ishl, 1), (208, .ior, 1), (209, .bipush 8, 2), (211, .iload 5, 2), (213, .imul, 1), (214, .iload 8, 2)] = true := by decide +kernel
theorem dX12_tries_144 : decode cX12_tries 144 = .ok (.aload_n 0, 1) := dk_at bX12_tries_144 0 rfl
theorem dX12_tries_145 : decode cX12_tries 145 = .ok (.getfield 115, 3) := dk_at bX12_tries_144 1 rfl
theorem dX12_tries_148 : decode cX12_tries 148 = .ok (.iload 8, 2) := dk_at bX12_tries_144 2 rfl
theorem dX12_tries_150 : decode cX12_tries 150 = .ok (.iaload, 1) := dk_at bX12_tries_144 3 rfl
theorem dX12_tries_151 : decode cX12_tries 151 = .ok (.if_icmp .le 8, 3) := dk_at bX12_tries_144 4 rfl
theorem dX12_tries_154 : decode cX12_tries 154 = .ok (.iload 9, 2) := dk_at bX12_tries_144 5 rfl
theorem dX12_tries_156 : decode cX12_tries 156 = .ok (.goto 10, 3) := dk_at bX12_tries_144 6 rfl
theorem dX12_tries_159 : decode cX12_tries 159 = .ok (.aload_n 0, 1) := dk_at bX12_tries_144 7 rfl
theorem dX12_tries_160 : decode cX12_tries 160 = .ok (.getfield 115, 3) := dk_at bX12_tries_144 8 rfl
theorem dX12_tries_163 : decode cX12_tries 163 = .ok (.iload 8, 2) := dk_at bX12_tries_144 9 rfl
theorem dX12_tries_165 : decode cX12_tries 165 = .ok (.iaload, 1) := dk_at bX12_tries_144 10 rfl
theorem dX12_tries_166 : decode cX12_tries 166 = .ok (.istore 10, 2) := dk_at bX12_tries_144 11 rfl
theorem dX12_tries_168 : decode cX12_tries 168 = .ok (.iload 10, 2) := dk_at bX12_tries_144 12 rfl
theorem dX12_tries_170 : decode cX12_tries 170 = .ok (.aload_n 0, 1) := dk_at bX12_tries_144 13 rfl
theorem dX12_tries_171 : decode cX12_tries 171 = .ok (.getfield 118, 3) := dk_at bX12_tries_144 14 rfl
theorem dX12_tries_174 : decode cX12_tries 174 = .ok (.iload 8, 2) := dk_at bX12_tries_144 15 rfl
theorem dX12_tries_176 : decode cX12_tries 176 = .ok (.iaload, 1) := dk_at bX12_tries_144 16 rfl
theorem dX12_tries_177 : decode cX12_tries 177 = .ok (.if_icmp .le 6, 3) := dk_at bX12_tries_144 17 rfl
theorem dX12_tries_180 : decode cX12_tries 180 = .ok (.goto 60, 3) := dk_at bX12_tries_144 18 rfl
theorem dX12_tries_183 : decode cX12_tries 183 = .ok (.aload_n 0, 1) := dk_at bX12_tries_144 19 rfl
theorem dX12_tries_184 : decode cX12_tries 184 = .ok (.iload_n 1, 1) := dk_at bX12_tries_144 20 rfl
theorem dX12_tries_185 : decode cX12_tries 185 = .ok (.aload_n 0, 1) := dk_at bX12_tries_144 21 rfl
theorem dX12_tries_186 : decode cX12_tries 186 = .ok (.getfield 109, 3) := dk_at bX12_tries_144 22 rfl
theorem dX12_tries_189 : decode cX12_tries 189 = .ok (.iload 8, 2) := dk_at bX12_tries_144 23 rfl
theorem dX12_tries_191 : decode cX12_tries 191 = .ok (.iaload, 1) := dk_at bX12_tries_144 24 rfl
theorem dX12_tries_192 : decode cX12_tries 192 = .ok (.iload 10, 2) := dk_at bX12_tries_144 25 rfl
theorem dX12_tries_194 : decode cX12_tries 194 = .ok (.aload_n 0, 1) := dk_at bX12_tries_144 26 rfl
theorem dX12_tries_195 : decode cX12_tries 195 = .ok (.getfield 112, 3) := dk_at bX12_tries_144 27 rfl
theorem dX12_tries_198 : decode cX12_tries 198 = .ok (.iload 8, 2) := dk_at bX12_tries_144 28 rfl
theorem dX12_tries_200 : decode cX12_tries 200 = .ok (.iaload, 1) := dk_at bX12_tries_144 29 rfl
theorem dX12_tries_201 : decode cX12_tries 201 = .ok (.iadd, 1) := dk_at bX12_tries_144 30 rfl
theorem dX12_tries_202 : decode cX12_tries 202 = .ok (.iload 4, 2) := dk_at bX12_tries_144 31 rfl
theorem dX12_tries_204 : decode cX12_tries 204 = .ok (.iconst 1, 1) := dk_at bX12_tries_144 32 rfl
theorem dX12_tries_205 : decode cX12_tries 205 = .ok (.iload 8, 2) := dk_at bX12_tries_144 33 rfl
theorem dX12_tries_207 : decode cX12_tries 207 = .ok (.ishl, 1) := dk_at bX12_tries_144 34 rfl
theorem dX12_tries_208 : decode cX12_tries 208 = .ok (.ior, 1) := dk_at bX12_tries_144 35 rfl
theorem dX12_tries_209 : decode cX12_tries 209 = .ok (.bipush 8, 2) := dk_at bX12_tries_144 36 rfl
theorem dX12_tries_211 : decode cX12_tries 211 = .ok (.iload 5, 2) := dk_at bX12_tries_144 37 rfl
theorem dX12_tries_213 : decode cX12_tries 213 = .ok (.imul, 1) := dk_at bX12_tries_144 38 rfl
theorem dX12_tries_214 : decode cX12_tries 214 = .ok (.iload 8, 2) := dk_at bX12_tries_144 39 rfl
theorem bX12_tries_216 : dk cX12_tries [(216, .iadd, 1), (217, .iload 6, 2), (219, .aload_n 0, 1), (220, .getfield 127, 3), (223, .bipush 10, 2), (225, .iload_n 2, 1), (226, .imul, 1), (227, .aload_n 0, 1), (228, .getfield 106, 3), (231, .iload 8, 2), (233, .iaload, 1), (234, .iadd, 1), (235, .iaload, 1), (236, .iadd, 1), (237, .invokevirtual 296, 3), (240, .iinc 8 1, 3), (243, .goto (-165), 3), (246, .return_, 1)] = true := by decide +kernel
theorem dX12_tries_216 : decode cX12_tries 216 = .ok (.iadd, 1) := dk_at bX12_tries_216 0 rfl
theorem dX12_tries_217 : decode cX12_tries 217 = .ok (.iload 6, 2) := dk_at bX12_tries_216 1 rfl
theorem dX12_tries_219 : decode cX12_tries 219 = .ok (.aload_n 0, 1) := dk_at bX12_tries_216 2 rfl
theorem dX12_tries_220 : decode cX12_tries 220 = .ok (.getfield 127, 3) := dk_at bX12_tries_216 3 rfl
theorem dX12_tries_223 : decode cX12_tries 223 = .ok (.bipush 10, 2) := dk_at bX12_tries_216 4 rfl
theorem dX12_tries_225 : decode cX12_tries 225 = .ok (.iload_n 2, 1) := dk_at bX12_tries_216 5 rfl
theorem dX12_tries_226 : decode cX12_tries 226 = .ok (.imul, 1) := dk_at bX12_tries_216 6 rfl
theorem dX12_tries_227 : decode cX12_tries 227 = .ok (.aload_n 0, 1) := dk_at bX12_tries_216 7 rfl
theorem dX12_tries_228 : decode cX12_tries 228 = .ok (.getfield 106, 3) := dk_at bX12_tries_216 8 rfl
theorem dX12_tries_231 : decode cX12_tries 231 = .ok (.iload 8, 2) := dk_at bX12_tries_216 9 rfl
theorem dX12_tries_233 : decode cX12_tries 233 = .ok (.iaload, 1) := dk_at bX12_tries_216 10 rfl
theorem dX12_tries_234 : decode cX12_tries 234 = .ok (.iadd, 1) := dk_at bX12_tries_216 11 rfl
theorem dX12_tries_235 : decode cX12_tries 235 = .ok (.iaload, 1) := dk_at bX12_tries_216 12 rfl
theorem dX12_tries_236 : decode cX12_tries 236 = .ok (.iadd, 1) := dk_at bX12_tries_216 13 rfl
theorem dX12_tries_237 : decode cX12_tries 237 = .ok (.invokevirtual 296, 3) := dk_at bX12_tries_216 14 rfl
theorem dX12_tries_240 : decode cX12_tries 240 = .ok (.iinc 8 1, 3) := dk_at bX12_tries_216 15 rfl
theorem dX12_tries_243 : decode cX12_tries 243 = .ok (.goto (-165), 3) := dk_at bX12_tries_216 16 rfl
theorem dX12_tries_246 : decode cX12_tries 246 = .ok (.return_, 1) := dk_at bX12_tries_216 17 rfl
set_option maxRecDepth 20000 in
theorem ggX12_give_X12_give : GoodIn wsX12_give wsX12_give := goodIn_r _ [0, 1, 2, 3, 4, 5, 6, 7, 8, 9, 10, 11, 12, 13, 14, 15, 16, 17, 18, 19, 20, 21, 22, 23, 24, 25, 26, 27, 28, 29, 30, 31, 32, 33, 34, 35, 36, 37, 38, 39, 40, 41, 42, 43, 44, 45, 46, 47, 48, 49, 50, 51, 52, 53, 54, 55, 56, 57, 58, 59, 60, 61, 62, 63, 64, 65, 66, 67, 68, 69, 70] rfl (by decide +kernel)
set_option maxRecDepth 20000 in
theorem gX12_give_X12_give : GoodIn wsX12_give (wsV RX12 306 RX12 yX12_give wsX12_give) := goodIn_app (goodIn_r _ [8, 9, 10, 11] rfl (by decide +kernel)) ggX12_give_X12_give
theorem bX12_give_0 : dk cX12_give [(0, .iload_n 1, 1), (1, .aload_n 0, 1), (2, .getfield 289, 3), (5, .if_icmp .ne 165, 3), (8, .iconst 0, 1), (9, .istore_n 2, 1), (10, .iconst 0, 1), (11, .istore_n 3, 1), (12, .iconst 0, 1), (13, .istore 4, 2), (15, .iload 4, 2), (17, .iconst 4, 1), (18, .if_icmp .ge 84, 3), (21, .aload_n 0, 1), (22, .getfield 130, 3), (25, .sipush 128, 3), (28, .iload 4, 2), (30, .imul, 1), (31, .aload_n 0, 1), (32, .getfield 142, 3), (35, .iload 4, 2), (37, .iaload, 1), (38, .iadd, 1), (39, .iaload, 1), (40, .iconst (-1), 1), (41, .if_icmp .ne 4, 3), (44, .return_, 1), (45, .iload_n 3, 1), (46, .aload_n 0, 1), (47, .getfield 130, 3), (50, .sipush 128, 3), (53, .iload 4, 2), (55, .imul, 1), (56, .aload_n 0, 1), (57, .getfield 142, 3), (60, .iload 4, 2), (62, .iaload, 1), (63, .iadd, 1), (64, .iaload, 1), (65, .iadd, 1)] = true := by decide +kernel
theorem dX12_give_0 : decode cX12_give 0 = .ok (.iload_n 1, 1) := dk_at bX12_give_0 0 rfl
theorem dX12_give_1 : decode cX12_give 1 = .ok (.aload_n 0, 1) := dk_at bX12_give_0 1 rfl
theorem dX12_give_2 : decode cX12_give 2 = .ok (.getfield 289, 3) := dk_at bX12_give_0 2 rfl
theorem dX12_give_5 : decode cX12_give 5 = .ok (.if_icmp .ne 165, 3) := dk_at bX12_give_0 3 rfl
theorem dX12_give_8 : decode cX12_give 8 = .ok (.iconst 0, 1) := dk_at bX12_give_0 4 rfl
theorem dX12_give_9 : decode cX12_give 9 = .ok (.istore_n 2, 1) := dk_at bX12_give_0 5 rfl
theorem dX12_give_10 : decode cX12_give 10 = .ok (.iconst 0, 1) := dk_at bX12_give_0 6 rfl
theorem dX12_give_11 : decode cX12_give 11 = .ok (.istore_n 3, 1) := dk_at bX12_give_0 7 rfl
theorem dX12_give_12 : decode cX12_give 12 = .ok (.iconst 0, 1) := dk_at bX12_give_0 8 rfl
theorem dX12_give_13 : decode cX12_give 13 = .ok (.istore 4, 2) := dk_at bX12_give_0 9 rfl
theorem dX12_give_15 : decode cX12_give 15 = .ok (.iload 4, 2) := dk_at bX12_give_0 10 rfl
theorem dX12_give_17 : decode cX12_give 17 = .ok (.iconst 4, 1) := dk_at bX12_give_0 11 rfl
theorem dX12_give_18 : decode cX12_give 18 = .ok (.if_icmp .ge 84, 3) := dk_at bX12_give_0 12 rfl
theorem dX12_give_21 : decode cX12_give 21 = .ok (.aload_n 0, 1) := dk_at bX12_give_0 13 rfl
theorem dX12_give_22 : decode cX12_give 22 = .ok (.getfield 130, 3) := dk_at bX12_give_0 14 rfl
theorem dX12_give_25 : decode cX12_give 25 = .ok (.sipush 128, 3) := dk_at bX12_give_0 15 rfl
theorem dX12_give_28 : decode cX12_give 28 = .ok (.iload 4, 2) := dk_at bX12_give_0 16 rfl
theorem dX12_give_30 : decode cX12_give 30 = .ok (.imul, 1) := dk_at bX12_give_0 17 rfl
theorem dX12_give_31 : decode cX12_give 31 = .ok (.aload_n 0, 1) := dk_at bX12_give_0 18 rfl
theorem dX12_give_32 : decode cX12_give 32 = .ok (.getfield 142, 3) := dk_at bX12_give_0 19 rfl
theorem dX12_give_35 : decode cX12_give 35 = .ok (.iload 4, 2) := dk_at bX12_give_0 20 rfl
theorem dX12_give_37 : decode cX12_give 37 = .ok (.iaload, 1) := dk_at bX12_give_0 21 rfl
theorem dX12_give_38 : decode cX12_give 38 = .ok (.iadd, 1) := dk_at bX12_give_0 22 rfl
theorem dX12_give_39 : decode cX12_give 39 = .ok (.iaload, 1) := dk_at bX12_give_0 23 rfl
theorem dX12_give_40 : decode cX12_give 40 = .ok (.iconst (-1), 1) := dk_at bX12_give_0 24 rfl
theorem dX12_give_41 : decode cX12_give 41 = .ok (.if_icmp .ne 4, 3) := dk_at bX12_give_0 25 rfl
theorem dX12_give_44 : decode cX12_give 44 = .ok (.return_, 1) := dk_at bX12_give_0 26 rfl
theorem dX12_give_45 : decode cX12_give 45 = .ok (.iload_n 3, 1) := dk_at bX12_give_0 27 rfl
theorem dX12_give_46 : decode cX12_give 46 = .ok (.aload_n 0, 1) := dk_at bX12_give_0 28 rfl
theorem dX12_give_47 : decode cX12_give 47 = .ok (.getfield 130, 3) := dk_at bX12_give_0 29 rfl
theorem dX12_give_50 : decode cX12_give 50 = .ok (.sipush 128, 3) := dk_at bX12_give_0 30 rfl
theorem dX12_give_53 : decode cX12_give 53 = .ok (.iload 4, 2) := dk_at bX12_give_0 31 rfl
theorem dX12_give_55 : decode cX12_give 55 = .ok (.imul, 1) := dk_at bX12_give_0 32 rfl
theorem dX12_give_56 : decode cX12_give 56 = .ok (.aload_n 0, 1) := dk_at bX12_give_0 33 rfl
theorem dX12_give_57 : decode cX12_give 57 = .ok (.getfield 142, 3) := dk_at bX12_give_0 34 rfl
theorem dX12_give_60 : decode cX12_give 60 = .ok (.iload 4, 2) := dk_at bX12_give_0 35 rfl
theorem dX12_give_62 : decode cX12_give 62 = .ok (.iaload, 1) := dk_at bX12_give_0 36 rfl
theorem dX12_give_63 : decode cX12_give 63 = .ok (.iadd, 1) := dk_at bX12_give_0 37 rfl
theorem dX12_give_64 : decode cX12_give 64 = .ok (.iaload, 1) := dk_at bX12_give_0 38 rfl
theorem dX12_give_65 : decode cX12_give 65 = .ok (.iadd, 1) := dk_at bX12_give_0 39 rfl
theorem bX12_give_66 : dk cX12_give [(66, .istore_n 3, 1), (67, .aload_n 0, 1), (68, .getfield 142, 3), (71, .iload 4, 2), (73, .iaload, 1), (74, .istore 5, 2), (76, .iload 5, 2), (78, .ifCond .eq 18, 3), (81, .iinc 2 1, 3), (84, .iload 5, 2), (86, .iload 5, 2), (88, .iconst 1, 1), (89, .isub, 1), (90, .iand, 1), (91, .istore 5, 2), (93, .goto (-17), 3), (96, .iinc 4 1, 3), (99, .goto (-84), 3), (102, .iload_n 2, 1), (103, .aload_n 0, 1), (104, .getfield 300, 3), (107, .if_icmp .lt 19, 3), (110, .iload_n 2, 1), (111, .aload_n 0, 1), (112, .getfield 300, 3), (115, .if_icmp .ne 12, 3), (118, .iload_n 3, 1), (119, .aload_n 0, 1), (120, .getfield 303, 3), (123, .if_icmp .lt 4, 3), (126, .return_, 1), (127, .aload_n 0, 1), (128, .iload_n 2, 1), (129, .putfield 300, 3), (132, .aload_n 0, 1), (133, .iload_n 3, 1), (134, .putfield 303, 3), (137, .iconst 0, 1), (138, .istore 4, 2), (140, .iload 4, 2)] = true := by decide +kernel
theorem dX12_give_66 : decode cX12_give 66 = .ok (.istore_n 3, 1) := dk_at bX12_give_66 0 rfl
theorem dX12_give_67 : decode cX12_give 67 = .ok (.aload_n 0, 1) := dk_at bX12_give_66 1 rfl
theorem dX12_give_68 : decode cX12_give 68 = .ok (.getfield 142, 3) := dk_at bX12_give_66 2 rfl
theorem dX12_give_71 : decode cX12_give 71 = .ok (.iload 4, 2) := dk_at bX12_give_66 3 rfl
theorem dX12_give_73 : decode cX12_give 73 = .ok (.iaload, 1) := dk_at bX12_give_66 4 rfl
theorem dX12_give_74 : decode cX12_give 74 = .ok (.istore 5, 2) := dk_at bX12_give_66 5 rfl
theorem dX12_give_76 : decode cX12_give 76 = .ok (.iload 5, 2) := dk_at bX12_give_66 6 rfl
theorem dX12_give_78 : decode cX12_give 78 = .ok (.ifCond .eq 18, 3) := dk_at bX12_give_66 7 rfl
theorem dX12_give_81 : decode cX12_give 81 = .ok (.iinc 2 1, 3) := dk_at bX12_give_66 8 rfl
theorem dX12_give_84 : decode cX12_give 84 = .ok (.iload 5, 2) := dk_at bX12_give_66 9 rfl
theorem dX12_give_86 : decode cX12_give 86 = .ok (.iload 5, 2) := dk_at bX12_give_66 10 rfl
theorem dX12_give_88 : decode cX12_give 88 = .ok (.iconst 1, 1) := dk_at bX12_give_66 11 rfl
theorem dX12_give_89 : decode cX12_give 89 = .ok (.isub, 1) := dk_at bX12_give_66 12 rfl
theorem dX12_give_90 : decode cX12_give 90 = .ok (.iand, 1) := dk_at bX12_give_66 13 rfl
theorem dX12_give_91 : decode cX12_give 91 = .ok (.istore 5, 2) := dk_at bX12_give_66 14 rfl
theorem dX12_give_93 : decode cX12_give 93 = .ok (.goto (-17), 3) := dk_at bX12_give_66 15 rfl
theorem dX12_give_96 : decode cX12_give 96 = .ok (.iinc 4 1, 3) := dk_at bX12_give_66 16 rfl
theorem dX12_give_99 : decode cX12_give 99 = .ok (.goto (-84), 3) := dk_at bX12_give_66 17 rfl
theorem dX12_give_102 : decode cX12_give 102 = .ok (.iload_n 2, 1) := dk_at bX12_give_66 18 rfl
theorem dX12_give_103 : decode cX12_give 103 = .ok (.aload_n 0, 1) := dk_at bX12_give_66 19 rfl
theorem dX12_give_104 : decode cX12_give 104 = .ok (.getfield 300, 3) := dk_at bX12_give_66 20 rfl
theorem dX12_give_107 : decode cX12_give 107 = .ok (.if_icmp .lt 19, 3) := dk_at bX12_give_66 21 rfl
theorem dX12_give_110 : decode cX12_give 110 = .ok (.iload_n 2, 1) := dk_at bX12_give_66 22 rfl
theorem dX12_give_111 : decode cX12_give 111 = .ok (.aload_n 0, 1) := dk_at bX12_give_66 23 rfl
theorem dX12_give_112 : decode cX12_give 112 = .ok (.getfield 300, 3) := dk_at bX12_give_66 24 rfl
theorem dX12_give_115 : decode cX12_give 115 = .ok (.if_icmp .ne 12, 3) := dk_at bX12_give_66 25 rfl
theorem dX12_give_118 : decode cX12_give 118 = .ok (.iload_n 3, 1) := dk_at bX12_give_66 26 rfl
theorem dX12_give_119 : decode cX12_give 119 = .ok (.aload_n 0, 1) := dk_at bX12_give_66 27 rfl
theorem dX12_give_120 : decode cX12_give 120 = .ok (.getfield 303, 3) := dk_at bX12_give_66 28 rfl
theorem dX12_give_123 : decode cX12_give 123 = .ok (.if_icmp .lt 4, 3) := dk_at bX12_give_66 29 rfl
theorem dX12_give_126 : decode cX12_give 126 = .ok (.return_, 1) := dk_at bX12_give_66 30 rfl
theorem dX12_give_127 : decode cX12_give 127 = .ok (.aload_n 0, 1) := dk_at bX12_give_66 31 rfl
theorem dX12_give_128 : decode cX12_give 128 = .ok (.iload_n 2, 1) := dk_at bX12_give_66 32 rfl
theorem dX12_give_129 : decode cX12_give 129 = .ok (.putfield 300, 3) := dk_at bX12_give_66 33 rfl
theorem dX12_give_132 : decode cX12_give 132 = .ok (.aload_n 0, 1) := dk_at bX12_give_66 34 rfl
theorem dX12_give_133 : decode cX12_give 133 = .ok (.iload_n 3, 1) := dk_at bX12_give_66 35 rfl
theorem dX12_give_134 : decode cX12_give 134 = .ok (.putfield 303, 3) := dk_at bX12_give_66 36 rfl
theorem dX12_give_137 : decode cX12_give 137 = .ok (.iconst 0, 1) := dk_at bX12_give_66 37 rfl
theorem dX12_give_138 : decode cX12_give 138 = .ok (.istore 4, 2) := dk_at bX12_give_66 38 rfl
theorem dX12_give_140 : decode cX12_give 140 = .ok (.iload 4, 2) := dk_at bX12_give_66 39 rfl
theorem bX12_give_142 : dk cX12_give [(142, .aload_n 0, 1), (143, .getfield 289, 3), (146, .if_icmp .ge 23, 3), (149, .aload_n 0, 1), (150, .getfield 139, 3), (153, .iload 4, 2), (155, .aload_n 0, 1), (156, .getfield 136, 3), (159, .iload 4, 2), (161, .iaload, 1), (162, .iastore, 1), (163, .iinc 4 1, 3), (166, .goto (-26), 3), (169, .return_, 1), (170, .iconst 0, 1), (171, .istore_n 2, 1), (172, .iload_n 2, 1), (173, .iconst 4, 1), (174, .if_icmp .ge 49, 3), (177, .aload_n 0, 1), (178, .getfield 136, 3), (181, .iload_n 1, 1), (182, .iload_n 2, 1), (183, .iastore, 1), (184, .aload_n 0, 1), (185, .getfield 142, 3), (188, .iload_n 2, 1), (189, .dup2, 1), (190, .iaload, 1), (191, .iconst 1, 1), (192, .iload_n 1, 1), (193, .ishl, 1), (194, .ior, 1), (195, .iastore, 1), (196, .aload_n 0, 1), (197, .iload_n 1, 1), (198, .iconst 1, 1), (199, .iadd, 1), (200, .invokevirtual 306, 3), (203, .aload_n 0, 1)] = true := by decide +kernel
theorem dX12_give_142 : decode cX12_give 142 = .ok (.aload_n 0, 1) := dk_at bX12_give_142 0 rfl
theorem dX12_give_143 : decode cX12_give 143 = .ok (.getfield 289, 3) := dk_at bX12_give_142 1 rfl
theorem dX12_give_146 : decode cX12_give 146 = .ok (.if_icmp .ge 23, 3) := dk_at bX12_give_142 2 rfl
theorem dX12_give_149 : decode cX12_give 149 = .ok (.aload_n 0, 1) := dk_at bX12_give_142 3 rfl
theorem dX12_give_150 : decode cX12_give 150 = .ok (.getfield 139, 3) := dk_at bX12_give_142 4 rfl
theorem dX12_give_153 : decode cX12_give 153 = .ok (.iload 4, 2) := dk_at bX12_give_142 5 rfl
theorem dX12_give_155 : decode cX12_give 155 = .ok (.aload_n 0, 1) := dk_at bX12_give_142 6 rfl
theorem dX12_give_156 : decode cX12_give 156 = .ok (.getfield 136, 3) := dk_at bX12_give_142 7 rfl
theorem dX12_give_159 : decode cX12_give 159 = .ok (.iload 4, 2) := dk_at bX12_give_142 8 rfl
theorem dX12_give_161 : decode cX12_give 161 = .ok (.iaload, 1) := dk_at bX12_give_142 9 rfl
theorem dX12_give_162 : decode cX12_give 162 = .ok (.iastore, 1) := dk_at bX12_give_142 10 rfl
theorem dX12_give_163 : decode cX12_give 163 = .ok (.iinc 4 1, 3) := dk_at bX12_give_142 11 rfl
theorem dX12_give_166 : decode cX12_give 166 = .ok (.goto (-26), 3) := dk_at bX12_give_142 12 rfl
theorem dX12_give_169 : decode cX12_give 169 = .ok (.return_, 1) := dk_at bX12_give_142 13 rfl
theorem dX12_give_170 : decode cX12_give 170 = .ok (.iconst 0, 1) := dk_at bX12_give_142 14 rfl
theorem dX12_give_171 : decode cX12_give 171 = .ok (.istore_n 2, 1) := dk_at bX12_give_142 15 rfl
theorem dX12_give_172 : decode cX12_give 172 = .ok (.iload_n 2, 1) := dk_at bX12_give_142 16 rfl
theorem dX12_give_173 : decode cX12_give 173 = .ok (.iconst 4, 1) := dk_at bX12_give_142 17 rfl
theorem dX12_give_174 : decode cX12_give 174 = .ok (.if_icmp .ge 49, 3) := dk_at bX12_give_142 18 rfl
theorem dX12_give_177 : decode cX12_give 177 = .ok (.aload_n 0, 1) := dk_at bX12_give_142 19 rfl
theorem dX12_give_178 : decode cX12_give 178 = .ok (.getfield 136, 3) := dk_at bX12_give_142 20 rfl
theorem dX12_give_181 : decode cX12_give 181 = .ok (.iload_n 1, 1) := dk_at bX12_give_142 21 rfl
theorem dX12_give_182 : decode cX12_give 182 = .ok (.iload_n 2, 1) := dk_at bX12_give_142 22 rfl
theorem dX12_give_183 : decode cX12_give 183 = .ok (.iastore, 1) := dk_at bX12_give_142 23 rfl
theorem dX12_give_184 : decode cX12_give 184 = .ok (.aload_n 0, 1) := dk_at bX12_give_142 24 rfl
theorem dX12_give_185 : decode cX12_give 185 = .ok (.getfield 142, 3) := dk_at bX12_give_142 25 rfl
theorem dX12_give_188 : decode cX12_give 188 = .ok (.iload_n 2, 1) := dk_at bX12_give_142 26 rfl
theorem dX12_give_189 : decode cX12_give 189 = .ok (.dup2, 1) := dk_at bX12_give_142 27 rfl
theorem dX12_give_190 : decode cX12_give 190 = .ok (.iaload, 1) := dk_at bX12_give_142 28 rfl
theorem dX12_give_191 : decode cX12_give 191 = .ok (.iconst 1, 1) := dk_at bX12_give_142 29 rfl
theorem dX12_give_192 : decode cX12_give 192 = .ok (.iload_n 1, 1) := dk_at bX12_give_142 30 rfl
theorem dX12_give_193 : decode cX12_give 193 = .ok (.ishl, 1) := dk_at bX12_give_142 31 rfl
theorem dX12_give_194 : decode cX12_give 194 = .ok (.ior, 1) := dk_at bX12_give_142 32 rfl
theorem dX12_give_195 : decode cX12_give 195 = .ok (.iastore, 1) := dk_at bX12_give_142 33 rfl
theorem dX12_give_196 : decode cX12_give 196 = .ok (.aload_n 0, 1) := dk_at bX12_give_142 34 rfl
theorem dX12_give_197 : decode cX12_give 197 = .ok (.iload_n 1, 1) := dk_at bX12_give_142 35 rfl
theorem dX12_give_198 : decode cX12_give 198 = .ok (.iconst 1, 1) := dk_at bX12_give_142 36 rfl
theorem dX12_give_199 : decode cX12_give 199 = .ok (.iadd, 1) := dk_at bX12_give_142 37 rfl
theorem dX12_give_200 : decode cX12_give 200 = .ok (.invokevirtual 306, 3) := dk_at bX12_give_142 38 rfl
theorem dX12_give_203 : decode cX12_give 203 = .ok (.aload_n 0, 1) := dk_at bX12_give_142 39 rfl
theorem bX12_give_204 : dk cX12_give [(204, .getfield 142, 3), (207, .iload_n 2, 1), (208, .dup2, 1), (209, .iaload, 1), (210, .iconst 1, 1), (211, .iload_n 1, 1), (212, .ishl, 1), (213, .iconst (-1), 1), (214, .ixor, 1), (215, .iand, 1), (216, .iastore, 1), (217, .iinc 2 1, 3), (220, .goto (-48), 3), (223, .aload_n 0, 1), (224, .getfield 136, 3), (227, .iload_n 1, 1), (228, .iconst (-1), 1), (229, .iastore, 1), (230, .aload_n 0, 1), (231, .iload_n 1, 1), (232, .iconst 1, 1), (233, .iadd, 1), (234, .invokevirtual 306, 3), (237, .return_, 1)] = true := by decide +kernel
theorem dX12_give_204 : decode cX12_give 204 = .ok (.getfield 142, 3) := dk_at bX12_give_204 0 rfl
theorem dX12_give_207 : decode cX12_give 207 = .ok (.iload_n 2, 1) := dk_at bX12_give_204 1 rfl
theorem dX12_give_208 : decode cX12_give 208 = .ok (.dup2, 1) := dk_at bX12_give_204 2 rfl
theorem dX12_give_209 : decode cX12_give 209 = .ok (.iaload, 1) := dk_at bX12_give_204 3 rfl
theorem dX12_give_210 : decode cX12_give 210 = .ok (.iconst 1, 1) := dk_at bX12_give_204 4 rfl
theorem dX12_give_211 : decode cX12_give 211 = .ok (.iload_n 1, 1) := dk_at bX12_give_204 5 rfl
theorem dX12_give_212 : decode cX12_give 212 = .ok (.ishl, 1) := dk_at bX12_give_204 6 rfl
theorem dX12_give_213 : decode cX12_give 213 = .ok (.iconst (-1), 1) := dk_at bX12_give_204 7 rfl
theorem dX12_give_214 : decode cX12_give 214 = .ok (.ixor, 1) := dk_at bX12_give_204 8 rfl
theorem dX12_give_215 : decode cX12_give 215 = .ok (.iand, 1) := dk_at bX12_give_204 9 rfl
theorem dX12_give_216 : decode cX12_give 216 = .ok (.iastore, 1) := dk_at bX12_give_204 10 rfl
theorem dX12_give_217 : decode cX12_give 217 = .ok (.iinc 2 1, 3) := dk_at bX12_give_204 11 rfl
theorem dX12_give_220 : decode cX12_give 220 = .ok (.goto (-48), 3) := dk_at bX12_give_204 12 rfl
theorem dX12_give_223 : decode cX12_give 223 = .ok (.aload_n 0, 1) := dk_at bX12_give_204 13 rfl
theorem dX12_give_224 : decode cX12_give 224 = .ok (.getfield 136, 3) := dk_at bX12_give_204 14 rfl
theorem dX12_give_227 : decode cX12_give 227 = .ok (.iload_n 1, 1) := dk_at bX12_give_204 15 rfl
theorem dX12_give_228 : decode cX12_give 228 = .ok (.iconst (-1), 1) := dk_at bX12_give_204 16 rfl
theorem dX12_give_229 : decode cX12_give 229 = .ok (.iastore, 1) := dk_at bX12_give_204 17 rfl
theorem dX12_give_230 : decode cX12_give 230 = .ok (.aload_n 0, 1) := dk_at bX12_give_204 18 rfl
theorem dX12_give_231 : decode cX12_give 231 = .ok (.iload_n 1, 1) := dk_at bX12_give_204 19 rfl
theorem dX12_give_232 : decode cX12_give 232 = .ok (.iconst 1, 1) := dk_at bX12_give_204 20 rfl
theorem dX12_give_233 : decode cX12_give 233 = .ok (.iadd, 1) := dk_at bX12_give_204 21 rfl
theorem dX12_give_234 : decode cX12_give 234 = .ok (.invokevirtual 306, 3) := dk_at bX12_give_204 22 rfl
theorem dX12_give_237 : decode cX12_give 237 = .ok (.return_, 1) := dk_at bX12_give_204 23 rfl
set_option maxRecDepth 20000 in
theorem ggX12_plan_X12_tries : GoodIn wsX12_plan wsX12_tries := goodIn_r _ [15, 1, 2, 8, 16, 17, 18, 19, 20, 21, 11, 12, 13, 14, 32, 33, 34, 35, 36, 37, 38, 39, 40, 41, 42, 43, 44, 45, 46, 47, 48, 49, 50, 51, 52, 53, 54, 55, 56, 57, 58, 59, 60, 61, 62, 63, 64, 65, 66, 67, 68, 69, 70, 71, 72, 73, 74, 75, 76, 77, 78, 79, 80, 81, 82, 83, 84, 85, 86, 87, 88, 89, 90] rfl (by decide +kernel)
set_option maxRecDepth 20000 in
theorem gX12_plan_X12_tries : GoodIn wsX12_plan (wsV RX12 296 RX12 yX12_tries wsX12_tries) := goodIn_app (goodIn_r _ [11, 12, 13, 14] rfl (by decide +kernel)) ggX12_plan_X12_tries
set_option maxRecDepth 20000 in
theorem ggX12_plan_X12_give : GoodIn wsX12_plan wsX12_give := goodIn_r _ [25, 8, 1, 3, 6, 7, 26, 27, 22, 23, 24, 14, 32, 33, 34, 35, 36, 37, 38, 39, 40, 41, 42, 43, 44, 45, 46, 47, 48, 49, 50, 51, 52, 53, 54, 55, 56, 57, 58, 59, 60, 61, 62, 63, 64, 65, 66, 67, 68, 69, 70, 71, 72, 73, 74, 75, 76, 77, 78, 79, 80, 81, 82, 83, 84, 85, 86, 87, 88, 89, 90] rfl (by decide +kernel)
set_option maxRecDepth 20000 in
theorem gX12_plan_X12_give : GoodIn wsX12_plan (wsV RX12 306 RX12 yX12_give wsX12_give) := goodIn_app (goodIn_r _ [22, 23, 24, 14] rfl (by decide +kernel)) ggX12_plan_X12_give
set_option maxRecDepth 20000 in
theorem ggX12_plan_X12_goes : GoodIn wsX12_plan wsX12_goes := goodIn_r _ [31, 8, 26, 2, 4, 5, 17, 9, 18, 21, 20, 32, 33, 34, 35, 36, 37, 38, 39, 40, 41, 42, 43, 44, 45, 46, 47, 48, 49, 50, 51, 52, 53, 54, 55, 56, 57, 58, 59, 60, 61, 62, 63, 64, 65, 66, 67, 68, 69, 70, 71, 72, 73, 74, 75, 76, 77, 78, 79, 80, 81, 82, 83, 84, 85, 86, 87, 88, 89, 90] rfl (by decide +kernel)
set_option maxRecDepth 20000 in
theorem gX12_plan_X12_goes : GoodIn wsX12_plan (wsV RX12 310 RX12 yX12_goes wsX12_goes) := goodIn_app (goodIn_r _ [28, 29, 30, 14] rfl (by decide +kernel)) ggX12_plan_X12_goes
theorem bX12_plan_0 : dk cX12_plan [(0, .iconst 0, 1), (1, .istore_n 1, 1), (2, .iload_n 1, 1), (3, .sipush 512, 3), (6, .if_icmp .ge 28, 3), (9, .aload_n 0, 1), (10, .getfield 130, 3), (13, .iload_n 1, 1), (14, .iload_n 1, 1), (15, .sipush 128, 3), (18, .irem, 1), (19, .ifCond .ne 7, 3), (22, .iconst 0, 1), (23, .goto 4, 3), (26, .iconst (-1), 1), (27, .iastore, 1), (28, .iinc 1 1, 3), (31, .goto (-29), 3), (34, .iconst 0, 1), (35, .istore_n 1, 1), (36, .iload_n 1, 1), (37, .iconst 4, 1), (38, .if_icmp .ge 57, 3), (41, .aload_n 0, 1), (42, .getfield 133, 3), (45, .sipush 128, 3), (48, .iload_n 1, 1), (49, .imul, 1), (50, .iconst 0, 1), (51, .iastore, 1), (52, .aload_n 0, 1), (53, .getfield 142, 3), (56, .iload_n 1, 1), (57, .iconst 0, 1), (58, .iastore, 1), (59, .aload_n 0, 1), (60, .getfield 121, 3), (63, .iload_n 1, 1), (64, .iaload, 1), (65, .iconst (-1), 1)] = true := by decide +kernel
theorem dX12_plan_0 : decode cX12_plan 0 = .ok (.iconst 0, 1) := dk_at bX12_plan_0 0 rfl
theorem dX12_plan_1 : decode cX12_plan 1 = .ok (.istore_n 1, 1) := dk_at bX12_plan_0 1 rfl
theorem dX12_plan_2 : decode cX12_plan 2 = .ok (.iload_n 1, 1) := dk_at bX12_plan_0 2 rfl
theorem dX12_plan_3 : decode cX12_plan 3 = .ok (.sipush 512, 3) := dk_at bX12_plan_0 3 rfl
theorem dX12_plan_6 : decode cX12_plan 6 = .ok (.if_icmp .ge 28, 3) := dk_at bX12_plan_0 4 rfl
theorem dX12_plan_9 : decode cX12_plan 9 = .ok (.aload_n 0, 1) := dk_at bX12_plan_0 5 rfl
theorem dX12_plan_10 : decode cX12_plan 10 = .ok (.getfield 130, 3) := dk_at bX12_plan_0 6 rfl
theorem dX12_plan_13 : decode cX12_plan 13 = .ok (.iload_n 1, 1) := dk_at bX12_plan_0 7 rfl
theorem dX12_plan_14 : decode cX12_plan 14 = .ok (.iload_n 1, 1) := dk_at bX12_plan_0 8 rfl
theorem dX12_plan_15 : decode cX12_plan 15 = .ok (.sipush 128, 3) := dk_at bX12_plan_0 9 rfl
theorem dX12_plan_18 : decode cX12_plan 18 = .ok (.irem, 1) := dk_at bX12_plan_0 10 rfl
theorem dX12_plan_19 : decode cX12_plan 19 = .ok (.ifCond .ne 7, 3) := dk_at bX12_plan_0 11 rfl
theorem dX12_plan_22 : decode cX12_plan 22 = .ok (.iconst 0, 1) := dk_at bX12_plan_0 12 rfl
theorem dX12_plan_23 : decode cX12_plan 23 = .ok (.goto 4, 3) := dk_at bX12_plan_0 13 rfl
theorem dX12_plan_26 : decode cX12_plan 26 = .ok (.iconst (-1), 1) := dk_at bX12_plan_0 14 rfl
theorem dX12_plan_27 : decode cX12_plan 27 = .ok (.iastore, 1) := dk_at bX12_plan_0 15 rfl
theorem dX12_plan_28 : decode cX12_plan 28 = .ok (.iinc 1 1, 3) := dk_at bX12_plan_0 16 rfl
theorem dX12_plan_31 : decode cX12_plan 31 = .ok (.goto (-29), 3) := dk_at bX12_plan_0 17 rfl
theorem dX12_plan_34 : decode cX12_plan 34 = .ok (.iconst 0, 1) := dk_at bX12_plan_0 18 rfl
theorem dX12_plan_35 : decode cX12_plan 35 = .ok (.istore_n 1, 1) := dk_at bX12_plan_0 19 rfl
theorem dX12_plan_36 : decode cX12_plan 36 = .ok (.iload_n 1, 1) := dk_at bX12_plan_0 20 rfl
theorem dX12_plan_37 : decode cX12_plan 37 = .ok (.iconst 4, 1) := dk_at bX12_plan_0 21 rfl
theorem dX12_plan_38 : decode cX12_plan 38 = .ok (.if_icmp .ge 57, 3) := dk_at bX12_plan_0 22 rfl
theorem dX12_plan_41 : decode cX12_plan 41 = .ok (.aload_n 0, 1) := dk_at bX12_plan_0 23 rfl
theorem dX12_plan_42 : decode cX12_plan 42 = .ok (.getfield 133, 3) := dk_at bX12_plan_0 24 rfl
theorem dX12_plan_45 : decode cX12_plan 45 = .ok (.sipush 128, 3) := dk_at bX12_plan_0 25 rfl
theorem dX12_plan_48 : decode cX12_plan 48 = .ok (.iload_n 1, 1) := dk_at bX12_plan_0 26 rfl
theorem dX12_plan_49 : decode cX12_plan 49 = .ok (.imul, 1) := dk_at bX12_plan_0 27 rfl
theorem dX12_plan_50 : decode cX12_plan 50 = .ok (.iconst 0, 1) := dk_at bX12_plan_0 28 rfl
theorem dX12_plan_51 : decode cX12_plan 51 = .ok (.iastore, 1) := dk_at bX12_plan_0 29 rfl
theorem dX12_plan_52 : decode cX12_plan 52 = .ok (.aload_n 0, 1) := dk_at bX12_plan_0 30 rfl
theorem dX12_plan_53 : decode cX12_plan 53 = .ok (.getfield 142, 3) := dk_at bX12_plan_0 31 rfl
theorem dX12_plan_56 : decode cX12_plan 56 = .ok (.iload_n 1, 1) := dk_at bX12_plan_0 32 rfl
theorem dX12_plan_57 : decode cX12_plan 57 = .ok (.iconst 0, 1) := dk_at bX12_plan_0 33 rfl
theorem dX12_plan_58 : decode cX12_plan 58 = .ok (.iastore, 1) := dk_at bX12_plan_0 34 rfl
theorem dX12_plan_59 : decode cX12_plan 59 = .ok (.aload_n 0, 1) := dk_at bX12_plan_0 35 rfl
theorem dX12_plan_60 : decode cX12_plan 60 = .ok (.getfield 121, 3) := dk_at bX12_plan_0 36 rfl
theorem dX12_plan_63 : decode cX12_plan 63 = .ok (.iload_n 1, 1) := dk_at bX12_plan_0 37 rfl
theorem dX12_plan_64 : decode cX12_plan 64 = .ok (.iaload, 1) := dk_at bX12_plan_0 38 rfl
theorem dX12_plan_65 : decode cX12_plan 65 = .ok (.iconst (-1), 1) := dk_at bX12_plan_0 39 rfl
