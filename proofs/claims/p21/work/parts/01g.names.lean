theorem bX12_feed_91 : dk cX12_feed [(91, .i2b, 1), (92, .bastore, 1), (93, .aload_n 0, 1), (94, .dup, 1), (95, .getfield 152, 3), (98, .iconst 1, 1), (99, .iadd, 1), (100, .putfield 152, 3), (103, .iinc 8 (-8), 3), (106, .goto (-33), 3), (109, .iinc 6 1, 3), (112, .goto (-93), 3), (115, .aload_n 0, 1), (116, .getfield 152, 3), (119, .ireturn, 1)] = true := by decide +kernel
theorem dX12_feed_91 : decode cX12_feed 91 = .ok (.i2b, 1) := dk_at bX12_feed_91 0 rfl
theorem dX12_feed_92 : decode cX12_feed 92 = .ok (.bastore, 1) := dk_at bX12_feed_91 1 rfl
theorem dX12_feed_93 : decode cX12_feed 93 = .ok (.aload_n 0, 1) := dk_at bX12_feed_91 2 rfl
theorem dX12_feed_94 : decode cX12_feed 94 = .ok (.dup, 1) := dk_at bX12_feed_91 3 rfl
theorem dX12_feed_95 : decode cX12_feed 95 = .ok (.getfield 152, 3) := dk_at bX12_feed_91 4 rfl
theorem dX12_feed_98 : decode cX12_feed 98 = .ok (.iconst 1, 1) := dk_at bX12_feed_91 5 rfl
theorem dX12_feed_99 : decode cX12_feed 99 = .ok (.iadd, 1) := dk_at bX12_feed_91 6 rfl
theorem dX12_feed_100 : decode cX12_feed 100 = .ok (.putfield 152, 3) := dk_at bX12_feed_91 7 rfl
theorem dX12_feed_103 : decode cX12_feed 103 = .ok (.iinc 8 (-8), 3) := dk_at bX12_feed_91 8 rfl
theorem dX12_feed_106 : decode cX12_feed 106 = .ok (.goto (-33), 3) := dk_at bX12_feed_91 9 rfl
theorem dX12_feed_109 : decode cX12_feed 109 = .ok (.iinc 6 1, 3) := dk_at bX12_feed_91 10 rfl
theorem dX12_feed_112 : decode cX12_feed 112 = .ok (.goto (-93), 3) := dk_at bX12_feed_91 11 rfl
theorem dX12_feed_115 : decode cX12_feed 115 = .ok (.aload_n 0, 1) := dk_at bX12_feed_91 12 rfl
theorem dX12_feed_116 : decode cX12_feed 116 = .ok (.getfield 152, 3) := dk_at bX12_feed_91 13 rfl
theorem dX12_feed_119 : decode cX12_feed 119 = .ok (.ireturn, 1) := dk_at bX12_feed_91 14 rfl
theorem bX12_end_0 : dk cX12_end [(0, .iload_n 1, 1), (1, .ifCond .lt 11, 3), (4, .iload_n 1, 1), (5, .aload_n 0, 1), (6, .getfield 152, 3), (9, .if_icmp .le 5, 3), (12, .iconst (-1), 1), (13, .ireturn, 1), (14, .aload_n 0, 1), (15, .iload_n 1, 1), (16, .putfield 152, 3), (19, .iload_n 1, 1), (20, .ireturn, 1)] = true := by decide +kernel
theorem dX12_end_0 : decode cX12_end 0 = .ok (.iload_n 1, 1) := dk_at bX12_end_0 0 rfl
theorem dX12_end_1 : decode cX12_end 1 = .ok (.ifCond .lt 11, 3) := dk_at bX12_end_0 1 rfl
theorem dX12_end_4 : decode cX12_end 4 = .ok (.iload_n 1, 1) := dk_at bX12_end_0 2 rfl
theorem dX12_end_5 : decode cX12_end 5 = .ok (.aload_n 0, 1) := dk_at bX12_end_0 3 rfl
theorem dX12_end_6 : decode cX12_end 6 = .ok (.getfield 152, 3) := dk_at bX12_end_0 4 rfl
theorem dX12_end_9 : decode cX12_end 9 = .ok (.if_icmp .le 5, 3) := dk_at bX12_end_0 5 rfl
theorem dX12_end_12 : decode cX12_end 12 = .ok (.iconst (-1), 1) := dk_at bX12_end_0 6 rfl
theorem dX12_end_13 : decode cX12_end 13 = .ok (.ireturn, 1) := dk_at bX12_end_0 7 rfl
theorem dX12_end_14 : decode cX12_end 14 = .ok (.aload_n 0, 1) := dk_at bX12_end_0 8 rfl
theorem dX12_end_15 : decode cX12_end 15 = .ok (.iload_n 1, 1) := dk_at bX12_end_0 9 rfl
theorem dX12_end_16 : decode cX12_end 16 = .ok (.putfield 152, 3) := dk_at bX12_end_0 10 rfl
theorem dX12_end_19 : decode cX12_end 19 = .ok (.iload_n 1, 1) := dk_at bX12_end_0 11 rfl
theorem dX12_end_20 : decode cX12_end 20 = .ok (.ireturn, 1) := dk_at bX12_end_0 12 rfl
theorem bX12_see_0 : dk cX12_see [(0, .iload_n 1, 1), (1, .aload_n 0, 1), (2, .getfield 155, 3), (5, .if_icmp .ge 16, 3), (8, .aload_n 0, 1), (9, .getfield 7, 3), (12, .iload_n 1, 1), (13, .baload, 1), (14, .sipush 255, 3), (17, .iand, 1), (18, .goto 4, 3), (21, .iconst (-1), 1), (22, .ireturn, 1)] = true := by decide +kernel
theorem dX12_see_0 : decode cX12_see 0 = .ok (.iload_n 1, 1) := dk_at bX12_see_0 0 rfl
theorem dX12_see_1 : decode cX12_see 1 = .ok (.aload_n 0, 1) := dk_at bX12_see_0 1 rfl
theorem dX12_see_2 : decode cX12_see 2 = .ok (.getfield 155, 3) := dk_at bX12_see_0 2 rfl
theorem dX12_see_5 : decode cX12_see 5 = .ok (.if_icmp .ge 16, 3) := dk_at bX12_see_0 3 rfl
theorem dX12_see_8 : decode cX12_see 8 = .ok (.aload_n 0, 1) := dk_at bX12_see_0 4 rfl
theorem dX12_see_9 : decode cX12_see 9 = .ok (.getfield 7, 3) := dk_at bX12_see_0 5 rfl
theorem dX12_see_12 : decode cX12_see 12 = .ok (.iload_n 1, 1) := dk_at bX12_see_0 6 rfl
theorem dX12_see_13 : decode cX12_see 13 = .ok (.baload, 1) := dk_at bX12_see_0 7 rfl
theorem dX12_see_14 : decode cX12_see 14 = .ok (.sipush 255, 3) := dk_at bX12_see_0 8 rfl
theorem dX12_see_17 : decode cX12_see 17 = .ok (.iand, 1) := dk_at bX12_see_0 9 rfl
theorem dX12_see_18 : decode cX12_see 18 = .ok (.goto 4, 3) := dk_at bX12_see_0 10 rfl
theorem dX12_see_21 : decode cX12_see 21 = .ok (.iconst (-1), 1) := dk_at bX12_see_0 11 rfl
theorem dX12_see_22 : decode cX12_see 22 = .ok (.ireturn, 1) := dk_at bX12_see_0 12 rfl
theorem bX12_isSmall_0 : dk cX12_isSmall [(0, .iload_n 0, 1), (1, .bipush 97, 2), (3, .if_icmp .lt 13, 3), (6, .iload_n 0, 1), (7, .bipush 122, 2), (9, .if_icmp .gt 7, 3), (12, .iconst 1, 1), (13, .goto 4, 3), (16, .iconst 0, 1), (17, .ireturn, 1)] = true := by decide +kernel
theorem dX12_isSmall_0 : decode cX12_isSmall 0 = .ok (.iload_n 0, 1) := dk_at bX12_isSmall_0 0 rfl
theorem dX12_isSmall_1 : decode cX12_isSmall 1 = .ok (.bipush 97, 2) := dk_at bX12_isSmall_0 1 rfl
theorem dX12_isSmall_3 : decode cX12_isSmall 3 = .ok (.if_icmp .lt 13, 3) := dk_at bX12_isSmall_0 2 rfl
theorem dX12_isSmall_6 : decode cX12_isSmall 6 = .ok (.iload_n 0, 1) := dk_at bX12_isSmall_0 3 rfl
theorem dX12_isSmall_7 : decode cX12_isSmall 7 = .ok (.bipush 122, 2) := dk_at bX12_isSmall_0 4 rfl
theorem dX12_isSmall_9 : decode cX12_isSmall 9 = .ok (.if_icmp .gt 7, 3) := dk_at bX12_isSmall_0 5 rfl
theorem dX12_isSmall_12 : decode cX12_isSmall 12 = .ok (.iconst 1, 1) := dk_at bX12_isSmall_0 6 rfl
theorem dX12_isSmall_13 : decode cX12_isSmall 13 = .ok (.goto 4, 3) := dk_at bX12_isSmall_0 7 rfl
theorem dX12_isSmall_16 : decode cX12_isSmall 16 = .ok (.iconst 0, 1) := dk_at bX12_isSmall_0 8 rfl
theorem dX12_isSmall_17 : decode cX12_isSmall 17 = .ok (.ireturn, 1) := dk_at bX12_isSmall_0 9 rfl
theorem bX12_isDigit_0 : dk cX12_isDigit [(0, .iload_n 0, 1), (1, .bipush 48, 2), (3, .if_icmp .lt 13, 3), (6, .iload_n 0, 1), (7, .bipush 57, 2), (9, .if_icmp .gt 7, 3), (12, .iconst 1, 1), (13, .goto 4, 3), (16, .iconst 0, 1), (17, .ireturn, 1)] = true := by decide +kernel
theorem dX12_isDigit_0 : decode cX12_isDigit 0 = .ok (.iload_n 0, 1) := dk_at bX12_isDigit_0 0 rfl
theorem dX12_isDigit_1 : decode cX12_isDigit 1 = .ok (.bipush 48, 2) := dk_at bX12_isDigit_0 1 rfl
theorem dX12_isDigit_3 : decode cX12_isDigit 3 = .ok (.if_icmp .lt 13, 3) := dk_at bX12_isDigit_0 2 rfl
theorem dX12_isDigit_6 : decode cX12_isDigit 6 = .ok (.iload_n 0, 1) := dk_at bX12_isDigit_0 3 rfl
theorem dX12_isDigit_7 : decode cX12_isDigit 7 = .ok (.bipush 57, 2) := dk_at bX12_isDigit_0 4 rfl
theorem dX12_isDigit_9 : decode cX12_isDigit 9 = .ok (.if_icmp .gt 7, 3) := dk_at bX12_isDigit_0 5 rfl
theorem dX12_isDigit_12 : decode cX12_isDigit 12 = .ok (.iconst 1, 1) := dk_at bX12_isDigit_0 6 rfl
theorem dX12_isDigit_13 : decode cX12_isDigit 13 = .ok (.goto 4, 3) := dk_at bX12_isDigit_0 7 rfl
theorem dX12_isDigit_16 : decode cX12_isDigit 16 = .ok (.iconst 0, 1) := dk_at bX12_isDigit_0 8 rfl
theorem dX12_isDigit_17 : decode cX12_isDigit 17 = .ok (.ireturn, 1) := dk_at bX12_isDigit_0 9 rfl
set_option maxRecDepth 20000 in
theorem ggX12_keyAt_J0_length_8abf5 : GoodIn wsX12_keyAt wsJ0_length_8abf5 := goodIn_r _ [5, 6, 7, 8, 9, 4, 10, 11, 12] rfl (by decide +kernel)
set_option maxRecDepth 20000 in
theorem gX12_keyAt_J0_length_8abf5 : GoodIn wsX12_keyAt (wsV RX12 160 RJ0 yJ0_length_8abf5 wsJ0_length_8abf5) := goodIn_app (goodIn_r _ [1, 2, 3, 4] rfl (by decide +kernel)) ggX12_keyAt_J0_length_8abf5
set_option maxRecDepth 20000 in
theorem ggX12_keyAt_J0_charAt_5068e : GoodIn wsX12_keyAt wsJ0_charAt_5068e := goodIn_r _ [16, 6, 17, 18, 19, 4, 20, 11, 12, 21, 22, 23, 24, 25, 26, 27, 28, 29, 30, 31, 32, 33, 34, 35, 36, 37, 38, 39, 40, 41, 42, 43, 44, 45, 46, 47, 48, 49] rfl (by decide +kernel)
set_option maxRecDepth 20000 in
theorem gX12_keyAt_J0_charAt_5068e : GoodIn wsX12_keyAt (wsV RX12 166 RJ0 yJ0_charAt_5068e wsJ0_charAt_5068e) := goodIn_app (goodIn_r _ [13, 14, 15, 4] rfl (by decide +kernel)) ggX12_keyAt_J0_charAt_5068e
set_option maxRecDepth 20000 in
theorem ggX12_keyAt_X12_see : GoodIn wsX12_keyAt wsX12_see := goodIn_r _ [54, 55, 56, 57, 58, 59, 60, 61, 62, 63, 64, 65, 66, 67, 68, 69, 70, 71, 72, 73, 74, 75, 76, 77, 78, 79, 80, 81, 82, 83, 84, 85, 86, 87, 88, 89, 90, 91, 92, 93, 94, 95, 96, 97, 98, 99, 100, 101, 102, 103, 104, 105, 106, 107, 108, 109, 110, 111, 112, 113, 114, 115] rfl (by decide +kernel)
set_option maxRecDepth 20000 in
theorem gX12_keyAt_X12_see : GoodIn wsX12_keyAt (wsV RX12 170 RX12 yX12_see wsX12_see) := goodIn_app (goodIn_r _ [50, 51, 52, 53] rfl (by decide +kernel)) ggX12_keyAt_X12_see
theorem bX12_keyAt_0 : dk cX12_keyAt [(0, .iconst 0, 1), (1, .istore_n 3, 1), (2, .iconst 0, 1), (3, .istore 4, 2), (5, .iconst 0, 1), (6, .istore 5, 2), (8, .iload 5, 2), (10, .ldc 158, 2), (12, .invokevirtual 160, 3), (15, .if_icmp .ge 104, 3), (18, .ldc 158, 2), (20, .iload 5, 2), (22, .invokevirtual 166, 3), (25, .bipush 32, 2), (27, .if_icmp .eq 6, 3), (30, .goto 83, 3), (33, .iload 5, 2), (35, .iload 4, 2), (37, .isub, 1), (38, .iload_n 2, 1), (39, .if_icmp .ne 7, 3), (42, .iconst 1, 1), (43, .goto 4, 3), (46, .iconst 0, 1), (47, .istore 6, 2), (49, .iconst 0, 1), (50, .istore 7, 2), (52, .iload 7, 2), (54, .iload_n 2, 1), (55, .if_icmp .ge 42, 3), (58, .iload 6, 2), (60, .ifCond .eq 37, 3), (63, .ldc 158, 2), (65, .iload 4, 2), (67, .iload 7, 2), (69, .iadd, 1), (70, .invokevirtual 166, 3), (73, .aload_n 0, 1), (74, .iload_n 1, 1), (75, .iload 7, 2)] = true := by decide +kernel
theorem dX12_keyAt_0 : decode cX12_keyAt 0 = .ok (.iconst 0, 1) := dk_at bX12_keyAt_0 0 rfl
theorem dX12_keyAt_1 : decode cX12_keyAt 1 = .ok (.istore_n 3, 1) := dk_at bX12_keyAt_0 1 rfl
theorem dX12_keyAt_2 : decode cX12_keyAt 2 = .ok (.iconst 0, 1) := dk_at bX12_keyAt_0 2 rfl
theorem dX12_keyAt_3 : decode cX12_keyAt 3 = .ok (.istore 4, 2) := dk_at bX12_keyAt_0 3 rfl
theorem dX12_keyAt_5 : decode cX12_keyAt 5 = .ok (.iconst 0, 1) := dk_at bX12_keyAt_0 4 rfl
theorem dX12_keyAt_6 : decode cX12_keyAt 6 = .ok (.istore 5, 2) := dk_at bX12_keyAt_0 5 rfl
theorem dX12_keyAt_8 : decode cX12_keyAt 8 = .ok (.iload 5, 2) := dk_at bX12_keyAt_0 6 rfl
theorem dX12_keyAt_10 : decode cX12_keyAt 10 = .ok (.ldc 158, 2) := dk_at bX12_keyAt_0 7 rfl
theorem dX12_keyAt_12 : decode cX12_keyAt 12 = .ok (.invokevirtual 160, 3) := dk_at bX12_keyAt_0 8 rfl
theorem dX12_keyAt_15 : decode cX12_keyAt 15 = .ok (.if_icmp .ge 104, 3) := dk_at bX12_keyAt_0 9 rfl
theorem dX12_keyAt_18 : decode cX12_keyAt 18 = .ok (.ldc 158, 2) := dk_at bX12_keyAt_0 10 rfl
theorem dX12_keyAt_20 : decode cX12_keyAt 20 = .ok (.iload 5, 2) := dk_at bX12_keyAt_0 11 rfl
theorem dX12_keyAt_22 : decode cX12_keyAt 22 = .ok (.invokevirtual 166, 3) := dk_at bX12_keyAt_0 12 rfl
theorem dX12_keyAt_25 : decode cX12_keyAt 25 = .ok (.bipush 32, 2) := dk_at bX12_keyAt_0 13 rfl
theorem dX12_keyAt_27 : decode cX12_keyAt 27 = .ok (.if_icmp .eq 6, 3) := dk_at bX12_keyAt_0 14 rfl
theorem dX12_keyAt_30 : decode cX12_keyAt 30 = .ok (.goto 83, 3) := dk_at bX12_keyAt_0 15 rfl
theorem dX12_keyAt_33 : decode cX12_keyAt 33 = .ok (.iload 5, 2) := dk_at bX12_keyAt_0 16 rfl
theorem dX12_keyAt_35 : decode cX12_keyAt 35 = .ok (.iload 4, 2) := dk_at bX12_keyAt_0 17 rfl
theorem dX12_keyAt_37 : decode cX12_keyAt 37 = .ok (.isub, 1) := dk_at bX12_keyAt_0 18 rfl
theorem dX12_keyAt_38 : decode cX12_keyAt 38 = .ok (.iload_n 2, 1) := dk_at bX12_keyAt_0 19 rfl
theorem dX12_keyAt_39 : decode cX12_keyAt 39 = .ok (.if_icmp .ne 7, 3) := dk_at bX12_keyAt_0 20 rfl
theorem dX12_keyAt_42 : decode cX12_keyAt 42 = .ok (.iconst 1, 1) := dk_at bX12_keyAt_0 21 rfl
theorem dX12_keyAt_43 : decode cX12_keyAt 43 = .ok (.goto 4, 3) := dk_at bX12_keyAt_0 22 rfl
theorem dX12_keyAt_46 : decode cX12_keyAt 46 = .ok (.iconst 0, 1) := dk_at bX12_keyAt_0 23 rfl
theorem dX12_keyAt_47 : decode cX12_keyAt 47 = .ok (.istore 6, 2) := dk_at bX12_keyAt_0 24 rfl
theorem dX12_keyAt_49 : decode cX12_keyAt 49 = .ok (.iconst 0, 1) := dk_at bX12_keyAt_0 25 rfl
theorem dX12_keyAt_50 : decode cX12_keyAt 50 = .ok (.istore 7, 2) := dk_at bX12_keyAt_0 26 rfl
theorem dX12_keyAt_52 : decode cX12_keyAt 52 = .ok (.iload 7, 2) := dk_at bX12_keyAt_0 27 rfl
theorem dX12_keyAt_54 : decode cX12_keyAt 54 = .ok (.iload_n 2, 1) := dk_at bX12_keyAt_0 28 rfl
theorem dX12_keyAt_55 : decode cX12_keyAt 55 = .ok (.if_icmp .ge 42, 3) := dk_at bX12_keyAt_0 29 rfl
theorem dX12_keyAt_58 : decode cX12_keyAt 58 = .ok (.iload 6, 2) := dk_at bX12_keyAt_0 30 rfl
theorem dX12_keyAt_60 : decode cX12_keyAt 60 = .ok (.ifCond .eq 37, 3) := dk_at bX12_keyAt_0 31 rfl
theorem dX12_keyAt_63 : decode cX12_keyAt 63 = .ok (.ldc 158, 2) := dk_at bX12_keyAt_0 32 rfl
theorem dX12_keyAt_65 : decode cX12_keyAt 65 = .ok (.iload 4, 2) := dk_at bX12_keyAt_0 33 rfl
theorem dX12_keyAt_67 : decode cX12_keyAt 67 = .ok (.iload 7, 2) := dk_at bX12_keyAt_0 34 rfl
theorem dX12_keyAt_69 : decode cX12_keyAt 69 = .ok (.iadd, 1) := dk_at bX12_keyAt_0 35 rfl
theorem dX12_keyAt_70 : decode cX12_keyAt 70 = .ok (.invokevirtual 166, 3) := dk_at bX12_keyAt_0 36 rfl
theorem dX12_keyAt_73 : decode cX12_keyAt 73 = .ok (.aload_n 0, 1) := dk_at bX12_keyAt_0 37 rfl
theorem dX12_keyAt_74 : decode cX12_keyAt 74 = .ok (.iload_n 1, 1) := dk_at bX12_keyAt_0 38 rfl
theorem dX12_keyAt_75 : decode cX12_keyAt 75 = .ok (.iload 7, 2) := dk_at bX12_keyAt_0 39 rfl
theorem bX12_keyAt_77 : dk cX12_keyAt [(77, .iadd, 1), (78, .invokevirtual 170, 3), (81, .if_icmp .ne 7, 3), (84, .iconst 1, 1), (85, .goto 4, 3), (88, .iconst 0, 1), (89, .istore 6, 2), (91, .iinc 7 1, 3), (94, .goto (-42), 3), (97, .iload 6, 2), (99, .ifCond .eq 5, 3), (102, .iload_n 3, 1), (103, .ireturn, 1), (104, .iinc 3 1, 3), (107, .iload 5, 2), (109, .iconst 1, 1), (110, .iadd, 1), (111, .istore 4, 2), (113, .iinc 5 1, 3), (116, .goto (-108), 3), (119, .iconst (-1), 1), (120, .ireturn, 1)] = true := by decide +kernel
theorem dX12_keyAt_77 : decode cX12_keyAt 77 = .ok (.iadd, 1) := dk_at bX12_keyAt_77 0 rfl
theorem dX12_keyAt_78 : decode cX12_keyAt 78 = .ok (.invokevirtual 170, 3) := dk_at bX12_keyAt_77 1 rfl
theorem dX12_keyAt_81 : decode cX12_keyAt 81 = .ok (.if_icmp .ne 7, 3) := dk_at bX12_keyAt_77 2 rfl
theorem dX12_keyAt_84 : decode cX12_keyAt 84 = .ok (.iconst 1, 1) := dk_at bX12_keyAt_77 3 rfl
theorem dX12_keyAt_85 : decode cX12_keyAt 85 = .ok (.goto 4, 3) := dk_at bX12_keyAt_77 4 rfl
theorem dX12_keyAt_88 : decode cX12_keyAt 88 = .ok (.iconst 0, 1) := dk_at bX12_keyAt_77 5 rfl
theorem dX12_keyAt_89 : decode cX12_keyAt 89 = .ok (.istore 6, 2) := dk_at bX12_keyAt_77 6 rfl
theorem dX12_keyAt_91 : decode cX12_keyAt 91 = .ok (.iinc 7 1, 3) := dk_at bX12_keyAt_77 7 rfl
theorem dX12_keyAt_94 : decode cX12_keyAt 94 = .ok (.goto (-42), 3) := dk_at bX12_keyAt_77 8 rfl
theorem dX12_keyAt_97 : decode cX12_keyAt 97 = .ok (.iload 6, 2) := dk_at bX12_keyAt_77 9 rfl
theorem dX12_keyAt_99 : decode cX12_keyAt 99 = .ok (.ifCond .eq 5, 3) := dk_at bX12_keyAt_77 10 rfl
theorem dX12_keyAt_102 : decode cX12_keyAt 102 = .ok (.iload_n 3, 1) := dk_at bX12_keyAt_77 11 rfl
theorem dX12_keyAt_103 : decode cX12_keyAt 103 = .ok (.ireturn, 1) := dk_at bX12_keyAt_77 12 rfl
theorem dX12_keyAt_104 : decode cX12_keyAt 104 = .ok (.iinc 3 1, 3) := dk_at bX12_keyAt_77 13 rfl
theorem dX12_keyAt_107 : decode cX12_keyAt 107 = .ok (.iload 5, 2) := dk_at bX12_keyAt_77 14 rfl
theorem dX12_keyAt_109 : decode cX12_keyAt 109 = .ok (.iconst 1, 1) := dk_at bX12_keyAt_77 15 rfl
theorem dX12_keyAt_110 : decode cX12_keyAt 110 = .ok (.iadd, 1) := dk_at bX12_keyAt_77 16 rfl
theorem dX12_keyAt_111 : decode cX12_keyAt 111 = .ok (.istore 4, 2) := dk_at bX12_keyAt_77 17 rfl
theorem dX12_keyAt_113 : decode cX12_keyAt 113 = .ok (.iinc 5 1, 3) := dk_at bX12_keyAt_77 18 rfl
theorem dX12_keyAt_116 : decode cX12_keyAt 116 = .ok (.goto (-108), 3) := dk_at bX12_keyAt_77 19 rfl
theorem dX12_keyAt_119 : decode cX12_keyAt 119 = .ok (.iconst (-1), 1) := dk_at bX12_keyAt_77 20 rfl
theorem dX12_keyAt_120 : decode cX12_keyAt 120 = .ok (.ireturn, 1) := dk_at bX12_keyAt_77 21 rfl
set_option maxRecDepth 20000 in
theorem ggX12_scan_X12_see : GoodIn wsX12_scan wsX12_see := goodIn_r _ [10, 11, 12, 72, 73, 74, 75, 76, 77, 78, 79, 80, 81, 82, 83, 84, 85, 86, 87, 88, 89, 90, 91, 92, 93, 94, 95, 96, 97, 98, 99, 100, 101, 102, 103, 104, 105, 106, 107, 108, 109, 110, 111, 112, 113, 114, 115, 116, 117, 118, 119, 120, 121, 122, 123, 124, 125, 126, 127, 128, 129, 130] rfl (by decide +kernel)
set_option maxRecDepth 20000 in
theorem gX12_scan_X12_see : GoodIn wsX12_scan (wsV RX12 170 RX12 yX12_see wsX12_see) := goodIn_app (goodIn_r _ [6, 7, 8, 9] rfl (by decide +kernel)) ggX12_scan_X12_see
set_option maxRecDepth 20000 in
theorem ggX12_scan_X12_isSmall : GoodIn wsX12_scan wsX12_isSmall := goodIn_r _ [15] rfl (by decide +kernel)
set_option maxRecDepth 20000 in
theorem gX12_scan_X12_isSmall : GoodIn wsX12_scan (va_wsS RX12 183 yX12_isSmall wsX12_isSmall) := goodIn_app (goodIn_r _ [13, 14, 9] rfl (by decide +kernel)) ggX12_scan_X12_isSmall
set_option maxRecDepth 20000 in
theorem ggX12_scan_X12_keyAt : GoodIn wsX12_scan wsX12_keyAt := goodIn_r _ [19, 20, 21, 22, 23, 24, 25, 26, 27, 28, 29, 30, 31, 32, 33, 34, 35, 36, 37, 38, 39, 40, 41, 42, 43, 44, 45, 46, 47, 48, 49, 50, 51, 52, 53, 54, 55, 56, 57, 58, 59, 60, 61, 62, 63, 64, 65, 66, 67, 68, 6, 7, 8, 9, 10, 11, 12, 72, 73, 74, 75, 76, 77, 78, 79, 80, 81, 82, 83, 84, 85, 86, 87, 88, 89, 90, 91, 92, 93, 94, 95, 96, 97, 98, 99, 100, 101, 102, 103, 104, 105, 106, 107, 108, 109, 110, 111, 112, 113, 114, 115, 116, 117, 118, 119, 120, 121, 122, 123, 124, 125, 126, 127, 128, 129, 130] rfl (by decide +kernel)
set_option maxRecDepth 20000 in
theorem gX12_scan_X12_keyAt : GoodIn wsX12_scan (wsV RX12 187 RX12 yX12_keyAt wsX12_keyAt) := goodIn_app (goodIn_r _ [16, 17, 18, 9] rfl (by decide +kernel)) ggX12_scan_X12_keyAt
set_option maxRecDepth 20000 in
theorem ggX12_scan_X12_isDigit : GoodIn wsX12_scan wsX12_isDigit := goodIn_r _ [71] rfl (by decide +kernel)
set_option maxRecDepth 20000 in
theorem gX12_scan_X12_isDigit : GoodIn wsX12_scan (va_wsS RX12 194 yX12_isDigit wsX12_isDigit) := goodIn_app (goodIn_r _ [69, 70, 9] rfl (by decide +kernel)) ggX12_scan_X12_isDigit
theorem bX12_scan_0 : dk cX12_scan [(0, .aload_n 0, 1), (1, .getfield 174, 3), (4, .istore_n 1, 1), (5, .aload_n 0, 1), (6, .iload_n 1, 1), (7, .invokevirtual 170, 3), (10, .bipush 32, 2), (12, .if_icmp .eq 13, 3), (15, .aload_n 0, 1), (16, .iload_n 1, 1), (17, .invokevirtual 170, 3), (20, .bipush 10, 2), (22, .if_icmp .ne 9, 3), (25, .iinc 1 1, 3), (28, .goto (-23), 3), (31, .aload_n 0, 1), (32, .iload_n 1, 1), (33, .putfield 177, 3), (36, .aload_n 0, 1), (37, .iload_n 1, 1), (38, .invokevirtual 170, 3), (41, .istore_n 2, 1), (42, .iload_n 1, 1), (43, .iconst 1, 1), (44, .iadd, 1), (45, .istore_n 3, 1), (46, .iload_n 2, 1), (47, .iconst (-1), 1), (48, .if_icmp .ne 13, 3), (51, .aload_n 0, 1), (52, .iconst 4, 1), (53, .putfield 180, 3), (56, .iload_n 1, 1), (57, .istore_n 3, 1), (58, .goto 159, 3), (61, .iload_n 2, 1), (62, .invokestatic 183, 3), (65, .ifCond .eq 52, 3), (68, .aload_n 0, 1), (69, .iload_n 3, 1)] = true := by decide +kernel
theorem dX12_scan_0 : decode cX12_scan 0 = .ok (.aload_n 0, 1) := dk_at bX12_scan_0 0 rfl
theorem dX12_scan_1 : decode cX12_scan 1 = .ok (.getfield 174, 3) := dk_at bX12_scan_0 1 rfl
theorem dX12_scan_4 : decode cX12_scan 4 = .ok (.istore_n 1, 1) := dk_at bX12_scan_0 2 rfl
theorem dX12_scan_5 : decode cX12_scan 5 = .ok (.aload_n 0, 1) := dk_at bX12_scan_0 3 rfl
theorem dX12_scan_6 : decode cX12_scan 6 = .ok (.iload_n 1, 1) := dk_at bX12_scan_0 4 rfl
theorem dX12_scan_7 : decode cX12_scan 7 = .ok (.invokevirtual 170, 3) := dk_at bX12_scan_0 5 rfl
theorem dX12_scan_10 : decode cX12_scan 10 = .ok (.bipush 32, 2) := dk_at bX12_scan_0 6 rfl
theorem dX12_scan_12 : decode cX12_scan 12 = .ok (.if_icmp .eq 13, 3) := dk_at bX12_scan_0 7 rfl
theorem dX12_scan_15 : decode cX12_scan 15 = .ok (.aload_n 0, 1) := dk_at bX12_scan_0 8 rfl
theorem dX12_scan_16 : decode cX12_scan 16 = .ok (.iload_n 1, 1) := dk_at bX12_scan_0 9 rfl
theorem dX12_scan_17 : decode cX12_scan 17 = .ok (.invokevirtual 170, 3) := dk_at bX12_scan_0 10 rfl
theorem dX12_scan_20 : decode cX12_scan 20 = .ok (.bipush 10, 2) := dk_at bX12_scan_0 11 rfl
theorem dX12_scan_22 : decode cX12_scan 22 = .ok (.if_icmp .ne 9, 3) := dk_at bX12_scan_0 12 rfl
theorem dX12_scan_25 : decode cX12_scan 25 = .ok (.iinc 1 1, 3) := dk_at bX12_scan_0 13 rfl
theorem dX12_scan_28 : decode cX12_scan 28 = .ok (.goto (-23), 3) := dk_at bX12_scan_0 14 rfl
theorem dX12_scan_31 : decode cX12_scan 31 = .ok (.aload_n 0, 1) := dk_at bX12_scan_0 15 rfl
theorem dX12_scan_32 : decode cX12_scan 32 = .ok (.iload_n 1, 1) := dk_at bX12_scan_0 16 rfl
theorem dX12_scan_33 : decode cX12_scan 33 = .ok (.putfield 177, 3) := dk_at bX12_scan_0 17 rfl
theorem dX12_scan_36 : decode cX12_scan 36 = .ok (.aload_n 0, 1) := dk_at bX12_scan_0 18 rfl
theorem dX12_scan_37 : decode cX12_scan 37 = .ok (.iload_n 1, 1) := dk_at bX12_scan_0 19 rfl
theorem dX12_scan_38 : decode cX12_scan 38 = .ok (.invokevirtual 170, 3) := dk_at bX12_scan_0 20 rfl
theorem dX12_scan_41 : decode cX12_scan 41 = .ok (.istore_n 2, 1) := dk_at bX12_scan_0 21 rfl
theorem dX12_scan_42 : decode cX12_scan 42 = .ok (.iload_n 1, 1) := dk_at bX12_scan_0 22 rfl
theorem dX12_scan_43 : decode cX12_scan 43 = .ok (.iconst 1, 1) := dk_at bX12_scan_0 23 rfl
theorem dX12_scan_44 : decode cX12_scan 44 = .ok (.iadd, 1) := dk_at bX12_scan_0 24 rfl
theorem dX12_scan_45 : decode cX12_scan 45 = .ok (.istore_n 3, 1) := dk_at bX12_scan_0 25 rfl
theorem dX12_scan_46 : decode cX12_scan 46 = .ok (.iload_n 2, 1) := dk_at bX12_scan_0 26 rfl
theorem dX12_scan_47 : decode cX12_scan 47 = .ok (.iconst (-1), 1) := dk_at bX12_scan_0 27 rfl
theorem dX12_scan_48 : decode cX12_scan 48 = .ok (.if_icmp .ne 13, 3) := dk_at bX12_scan_0 28 rfl
theorem dX12_scan_51 : decode cX12_scan 51 = .ok (.aload_n 0, 1) := dk_at bX12_scan_0 29 rfl
theorem dX12_scan_52 : decode cX12_scan 52 = .ok (.iconst 4, 1) := dk_at bX12_scan_0 30 rfl
theorem dX12_scan_53 : decode cX12_scan 53 = .ok (.putfield 180, 3) := dk_at bX12_scan_0 31 rfl
theorem dX12_scan_56 : decode cX12_scan 56 = .ok (.iload_n 1, 1) := dk_at bX12_scan_0 32 rfl
theorem dX12_scan_57 : decode cX12_scan 57 = .ok (.istore_n 3, 1) := dk_at bX12_scan_0 33 rfl
theorem dX12_scan_58 : decode cX12_scan 58 = .ok (.goto 159, 3) := dk_at bX12_scan_0 34 rfl
theorem dX12_scan_61 : decode cX12_scan 61 = .ok (.iload_n 2, 1) := dk_at bX12_scan_0 35 rfl
theorem dX12_scan_62 : decode cX12_scan 62 = .ok (.invokestatic 183, 3) := dk_at bX12_scan_0 36 rfl
theorem dX12_scan_65 : decode cX12_scan 65 = .ok (.ifCond .eq 52, 3) := dk_at bX12_scan_0 37 rfl
theorem dX12_scan_68 : decode cX12_scan 68 = .ok (.aload_n 0, 1) := dk_at bX12_scan_0 38 rfl
theorem dX12_scan_69 : decode cX12_scan 69 = .ok (.iload_n 3, 1) := dk_at bX12_scan_0 39 rfl
theorem bX12_scan_70 : dk cX12_scan [(70, .invokevirtual 170, 3), (73, .invokestatic 183, 3), (76, .ifCond .eq 9, 3), (79, .iinc 3 1, 3), (82, .goto (-14), 3), (85, .aload_n 0, 1), (86, .aload_n 0, 1), (87, .iload_n 1, 1), (88, .iload_n 3, 1), (89, .iload_n 1, 1), (90, .isub, 1), (91, .invokevirtual 187, 3), (94, .putfield 191, 3), (97, .aload_n 0, 1), (98, .aload_n 0, 1), (99, .getfield 191, 3), (102, .iconst (-1), 1), (103, .if_icmp .ne 7, 3), (106, .iconst 0, 1), (107, .goto 4, 3), (110, .iconst 1, 1), (111, .putfield 180, 3), (114, .goto 103, 3), (117, .iload_n 2, 1), (118, .invokestatic 194, 3), (121, .ifCond .eq 81, 3), (124, .aload_n 0, 1), (125, .iload_n 2, 1), (126, .bipush 48, 2), (128, .isub, 1), (129, .putfield 197, 3), (132, .aload_n 0, 1), (133, .iload_n 3, 1), (134, .invokevirtual 170, 3), (137, .invokestatic 194, 3), (140, .ifCond .eq 43, 3), (143, .aload_n 0, 1), (144, .iload_n 3, 1), (145, .iload_n 1, 1), (146, .isub, 1)] = true := by decide +kernel
theorem dX12_scan_70 : decode cX12_scan 70 = .ok (.invokevirtual 170, 3) := dk_at bX12_scan_70 0 rfl
theorem dX12_scan_73 : decode cX12_scan 73 = .ok (.invokestatic 183, 3) := dk_at bX12_scan_70 1 rfl
theorem dX12_scan_76 : decode cX12_scan 76 = .ok (.ifCond .eq 9, 3) := dk_at bX12_scan_70 2 rfl
theorem dX12_scan_79 : decode cX12_scan 79 = .ok (.iinc 3 1, 3) := dk_at bX12_scan_70 3 rfl
theorem dX12_scan_82 : decode cX12_scan 82 = .ok (.goto (-14), 3) := dk_at bX12_scan_70 4 rfl
theorem dX12_scan_85 : decode cX12_scan 85 = .ok (.aload_n 0, 1) := dk_at bX12_scan_70 5 rfl
theorem dX12_scan_86 : decode cX12_scan 86 = .ok (.aload_n 0, 1) := dk_at bX12_scan_70 6 rfl
theorem dX12_scan_87 : decode cX12_scan 87 = .ok (.iload_n 1, 1) := dk_at bX12_scan_70 7 rfl
theorem dX12_scan_88 : decode cX12_scan 88 = .ok (.iload_n 3, 1) := dk_at bX12_scan_70 8 rfl
theorem dX12_scan_89 : decode cX12_scan 89 = .ok (.iload_n 1, 1) := dk_at bX12_scan_70 9 rfl
theorem dX12_scan_90 : decode cX12_scan 90 = .ok (.isub, 1) := dk_at bX12_scan_70 10 rfl
theorem dX12_scan_91 : decode cX12_scan 91 = .ok (.invokevirtual 187, 3) := dk_at bX12_scan_70 11 rfl
theorem dX12_scan_94 : decode cX12_scan 94 = .ok (.putfield 191, 3) := dk_at bX12_scan_70 12 rfl
theorem dX12_scan_97 : decode cX12_scan 97 = .ok (.aload_n 0, 1) := dk_at bX12_scan_70 13 rfl
theorem dX12_scan_98 : decode cX12_scan 98 = .ok (.aload_n 0, 1) := dk_at bX12_scan_70 14 rfl
theorem dX12_scan_99 : decode cX12_scan 99 = .ok (.getfield 191, 3) := dk_at bX12_scan_70 15 rfl
theorem dX12_scan_102 : decode cX12_scan 102 = .ok (.iconst (-1), 1) := dk_at bX12_scan_70 16 rfl
theorem dX12_scan_103 : decode cX12_scan 103 = .ok (.if_icmp .ne 7, 3) := dk_at bX12_scan_70 17 rfl
theorem dX12_scan_106 : decode cX12_scan 106 = .ok (.iconst 0, 1) := dk_at bX12_scan_70 18 rfl
theorem dX12_scan_107 : decode cX12_scan 107 = .ok (.goto 4, 3) := dk_at bX12_scan_70 19 rfl
theorem dX12_scan_110 : decode cX12_scan 110 = .ok (.iconst 1, 1) := dk_at bX12_scan_70 20 rfl
theorem dX12_scan_111 : decode cX12_scan 111 = .ok (.putfield 180, 3) := dk_at bX12_scan_70 21 rfl
theorem dX12_scan_114 : decode cX12_scan 114 = .ok (.goto 103, 3) := dk_at bX12_scan_70 22 rfl
theorem dX12_scan_117 : decode cX12_scan 117 = .ok (.iload_n 2, 1) := dk_at bX12_scan_70 23 rfl
theorem dX12_scan_118 : decode cX12_scan 118 = .ok (.invokestatic 194, 3) := dk_at bX12_scan_70 24 rfl
theorem dX12_scan_121 : decode cX12_scan 121 = .ok (.ifCond .eq 81, 3) := dk_at bX12_scan_70 25 rfl
theorem dX12_scan_124 : decode cX12_scan 124 = .ok (.aload_n 0, 1) := dk_at bX12_scan_70 26 rfl
theorem dX12_scan_125 : decode cX12_scan 125 = .ok (.iload_n 2, 1) := dk_at bX12_scan_70 27 rfl
theorem dX12_scan_126 : decode cX12_scan 126 = .ok (.bipush 48, 2) := dk_at bX12_scan_70 28 rfl
theorem dX12_scan_128 : decode cX12_scan 128 = .ok (.isub, 1) := dk_at bX12_scan_70 29 rfl
theorem dX12_scan_129 : decode cX12_scan 129 = .ok (.putfield 197, 3) := dk_at bX12_scan_70 30 rfl
theorem dX12_scan_132 : decode cX12_scan 132 = .ok (.aload_n 0, 1) := dk_at bX12_scan_70 31 rfl
theorem dX12_scan_133 : decode cX12_scan 133 = .ok (.iload_n 3, 1) := dk_at bX12_scan_70 32 rfl
theorem dX12_scan_134 : decode cX12_scan 134 = .ok (.invokevirtual 170, 3) := dk_at bX12_scan_70 33 rfl
theorem dX12_scan_137 : decode cX12_scan 137 = .ok (.invokestatic 194, 3) := dk_at bX12_scan_70 34 rfl
theorem dX12_scan_140 : decode cX12_scan 140 = .ok (.ifCond .eq 43, 3) := dk_at bX12_scan_70 35 rfl
theorem dX12_scan_143 : decode cX12_scan 143 = .ok (.aload_n 0, 1) := dk_at bX12_scan_70 36 rfl
theorem dX12_scan_144 : decode cX12_scan 144 = .ok (.iload_n 3, 1) := dk_at bX12_scan_70 37 rfl
theorem dX12_scan_145 : decode cX12_scan 145 = .ok (.iload_n 1, 1) := dk_at bX12_scan_70 38 rfl
theorem dX12_scan_146 : decode cX12_scan 146 = .ok (.isub, 1) := dk_at bX12_scan_70 39 rfl
theorem bX12_scan_147 : dk cX12_scan [(147, .iconst 4, 1), (148, .if_icmp .ge 22, 3), (151, .bipush 10, 2), (153, .aload_n 0, 1), (154, .getfield 197, 3), (157, .imul, 1), (158, .aload_n 0, 1), (159, .iload_n 3, 1), (160, .invokevirtual 170, 3), (163, .iadd, 1), (164, .bipush 48, 2), (166, .isub, 1), (167, .goto 7, 3), (170, .aload_n 0, 1), (171, .getfield 197, 3), (174, .putfield 197, 3), (177, .iinc 3 1, 3), (180, .goto (-48), 3), (183, .aload_n 0, 1), (184, .iload_n 3, 1), (185, .iload_n 1, 1), (186, .isub, 1), (187, .iconst 4, 1), (188, .if_icmp .le 7, 3), (191, .iconst 0, 1), (192, .goto 4, 3), (195, .iconst 2, 1), (196, .putfield 180, 3), (199, .goto 18, 3), (202, .aload_n 0, 1), (203, .iload_n 2, 1), (204, .bipush 59, 2), (206, .if_icmp .ne 7, 3), (209, .iconst 3, 1), (210, .goto 4, 3), (213, .iconst 0, 1), (214, .putfield 180, 3), (217, .aload_n 0, 1), (218, .iload_n 3, 1), (219, .putfield 174, 3)] = true := by decide +kernel
theorem dX12_scan_147 : decode cX12_scan 147 = .ok (.iconst 4, 1) := dk_at bX12_scan_147 0 rfl
theorem dX12_scan_148 : decode cX12_scan 148 = .ok (.if_icmp .ge 22, 3) := dk_at bX12_scan_147 1 rfl
theorem dX12_scan_151 : decode cX12_scan 151 = .ok (.bipush 10, 2) := dk_at bX12_scan_147 2 rfl
theorem dX12_scan_153 : decode cX12_scan 153 = .ok (.aload_n 0, 1) := dk_at bX12_scan_147 3 rfl
theorem dX12_scan_154 : decode cX12_scan 154 = .ok (.getfield 197, 3) := dk_at bX12_scan_147 4 rfl
theorem dX12_scan_157 : decode cX12_scan 157 = .ok (.imul, 1) := dk_at bX12_scan_147 5 rfl
theorem dX12_scan_158 : decode cX12_scan 158 = .ok (.aload_n 0, 1) := dk_at bX12_scan_147 6 rfl
theorem dX12_scan_159 : decode cX12_scan 159 = .ok (.iload_n 3, 1) := dk_at bX12_scan_147 7 rfl
theorem dX12_scan_160 : decode cX12_scan 160 = .ok (.invokevirtual 170, 3) := dk_at bX12_scan_147 8 rfl
theorem dX12_scan_163 : decode cX12_scan 163 = .ok (.iadd, 1) := dk_at bX12_scan_147 9 rfl
theorem dX12_scan_164 : decode cX12_scan 164 = .ok (.bipush 48, 2) := dk_at bX12_scan_147 10 rfl
theorem dX12_scan_166 : decode cX12_scan 166 = .ok (.isub, 1) := dk_at bX12_scan_147 11 rfl
theorem dX12_scan_167 : decode cX12_scan 167 = .ok (.goto 7, 3) := dk_at bX12_scan_147 12 rfl
theorem dX12_scan_170 : decode cX12_scan 170 = .ok (.aload_n 0, 1) := dk_at bX12_scan_147 13 rfl
theorem dX12_scan_171 : decode cX12_scan 171 = .ok (.getfield 197, 3) := dk_at bX12_scan_147 14 rfl
theorem dX12_scan_174 : decode cX12_scan 174 = .ok (.putfield 197, 3) := dk_at bX12_scan_147 15 rfl
theorem dX12_scan_177 : decode cX12_scan 177 = .ok (.iinc 3 1, 3) := dk_at bX12_scan_147 16 rfl
theorem dX12_scan_180 : decode cX12_scan 180 = .ok (.goto (-48), 3) := dk_at bX12_scan_147 17 rfl
theorem dX12_scan_183 : decode cX12_scan 183 = .ok (.aload_n 0, 1) := dk_at bX12_scan_147 18 rfl
theorem dX12_scan_184 : decode cX12_scan 184 = .ok (.iload_n 3, 1) := dk_at bX12_scan_147 19 rfl
theorem dX12_scan_185 : decode cX12_scan 185 = .ok (.iload_n 1, 1) := dk_at bX12_scan_147 20 rfl
theorem dX12_scan_186 : decode cX12_scan 186 = .ok (.isub, 1) := dk_at bX12_scan_147 21 rfl
theorem dX12_scan_187 : decode cX12_scan 187 = .ok (.iconst 4, 1) := dk_at bX12_scan_147 22 rfl
theorem dX12_scan_188 : decode cX12_scan 188 = .ok (.if_icmp .le 7, 3) := dk_at bX12_scan_147 23 rfl
theorem dX12_scan_191 : decode cX12_scan 191 = .ok (.iconst 0, 1) := dk_at bX12_scan_147 24 rfl
theorem dX12_scan_192 : decode cX12_scan 192 = .ok (.goto 4, 3) := dk_at bX12_scan_147 25 rfl
theorem dX12_scan_195 : decode cX12_scan 195 = .ok (.iconst 2, 1) := dk_at bX12_scan_147 26 rfl
theorem dX12_scan_196 : decode cX12_scan 196 = .ok (.putfield 180, 3) := dk_at bX12_scan_147 27 rfl
theorem dX12_scan_199 : decode cX12_scan 199 = .ok (.goto 18, 3) := dk_at bX12_scan_147 28 rfl
theorem dX12_scan_202 : decode cX12_scan 202 = .ok (.aload_n 0, 1) := dk_at bX12_scan_147 29 rfl
theorem dX12_scan_203 : decode cX12_scan 203 = .ok (.iload_n 2, 1) := dk_at bX12_scan_147 30 rfl
theorem dX12_scan_204 : decode cX12_scan 204 = .ok (.bipush 59, 2) := dk_at bX12_scan_147 31 rfl
theorem dX12_scan_206 : decode cX12_scan 206 = .ok (.if_icmp .ne 7, 3) := dk_at bX12_scan_147 32 rfl
theorem dX12_scan_209 : decode cX12_scan 209 = .ok (.iconst 3, 1) := dk_at bX12_scan_147 33 rfl
theorem dX12_scan_210 : decode cX12_scan 210 = .ok (.goto 4, 3) := dk_at bX12_scan_147 34 rfl
theorem dX12_scan_213 : decode cX12_scan 213 = .ok (.iconst 0, 1) := dk_at bX12_scan_147 35 rfl
theorem dX12_scan_214 : decode cX12_scan 214 = .ok (.putfield 180, 3) := dk_at bX12_scan_147 36 rfl
theorem dX12_scan_217 : decode cX12_scan 217 = .ok (.aload_n 0, 1) := dk_at bX12_scan_147 37 rfl
theorem dX12_scan_218 : decode cX12_scan 218 = .ok (.iload_n 3, 1) := dk_at bX12_scan_147 38 rfl
theorem dX12_scan_219 : decode cX12_scan 219 = .ok (.putfield 174, 3) := dk_at bX12_scan_147 39 rfl
theorem dX12_scan_222 : decode cX12_scan 222 = .ok (.return_, 1) := by decide +kernel
theorem bX12_wrong_0 : dk cX12_wrong [(0, .aload_n 0, 1), (1, .iload_n 1, 1), (2, .putfield 200, 3), (5, .aload_n 0, 1), (6, .aload_n 0, 1), (7, .getfield 177, 3), (10, .putfield 13, 3), (13, .iconst 0, 1), (14, .ireturn, 1)] = true := by decide +kernel
theorem dX12_wrong_0 : decode cX12_wrong 0 = .ok (.aload_n 0, 1) := dk_at bX12_wrong_0 0 rfl
theorem dX12_wrong_1 : decode cX12_wrong 1 = .ok (.iload_n 1, 1) := dk_at bX12_wrong_0 1 rfl
theorem dX12_wrong_2 : decode cX12_wrong 2 = .ok (.putfield 200, 3) := dk_at bX12_wrong_0 2 rfl
theorem dX12_wrong_5 : decode cX12_wrong 5 = .ok (.aload_n 0, 1) := dk_at bX12_wrong_0 3 rfl
theorem dX12_wrong_6 : decode cX12_wrong 6 = .ok (.aload_n 0, 1) := dk_at bX12_wrong_0 4 rfl
theorem dX12_wrong_7 : decode cX12_wrong 7 = .ok (.getfield 177, 3) := dk_at bX12_wrong_0 5 rfl
theorem dX12_wrong_10 : decode cX12_wrong 10 = .ok (.putfield 13, 3) := dk_at bX12_wrong_0 6 rfl
theorem dX12_wrong_13 : decode cX12_wrong 13 = .ok (.iconst 0, 1) := dk_at bX12_wrong_0 7 rfl
theorem dX12_wrong_14 : decode cX12_wrong 14 = .ok (.ireturn, 1) := dk_at bX12_wrong_0 8 rfl
set_option maxRecDepth 20000 in
theorem ggX12_word_X12_in : GoodIn wsX12_word wsX12_in := goodIn_r _ [7] rfl (by decide +kernel)
set_option maxRecDepth 20000 in
theorem gX12_word_X12_in : GoodIn wsX12_word (va_wsS RX12 148 yX12_in wsX12_in) := goodIn_app (goodIn_r _ [4, 5, 6] rfl (by decide +kernel)) ggX12_word_X12_in
set_option maxRecDepth 20000 in
theorem ggX12_word_X12_wrong : GoodIn wsX12_word wsX12_wrong := goodIn_r _ [11, 12, 13, 14, 86, 87, 88, 89, 90, 91, 92, 93, 94, 95, 96, 97, 98, 99, 100, 101, 102, 103, 104, 105, 106, 107, 108, 109, 110, 111, 112, 113, 114, 115, 116, 117, 118, 119, 120, 121, 122, 123, 124, 125, 126, 127, 128, 129, 130, 131, 132, 133, 134, 135, 136, 137, 138, 139, 140, 141, 142, 143, 144] rfl (by decide +kernel)
set_option maxRecDepth 20000 in
theorem gX12_word_X12_wrong : GoodIn wsX12_word (wsV RX12 203 RX12 yX12_wrong wsX12_wrong) := goodIn_app (goodIn_r _ [8, 9, 10, 6] rfl (by decide +kernel)) ggX12_word_X12_wrong
set_option maxRecDepth 20000 in
theorem ggX12_word_X12_scan : GoodIn wsX12_word wsX12_scan := goodIn_r _ [18, 19, 13, 1, 2, 20, 21, 22, 23, 6, 24, 25, 26, 27, 28, 29, 30, 31, 32, 33, 34, 35, 36, 37, 38, 39, 40, 41, 42, 43, 44, 45, 46, 47, 48, 49, 50, 51, 52, 53, 54, 55, 56, 57, 58, 59, 60, 61, 62, 63, 64, 65, 66, 67, 68, 69, 70, 71, 72, 73, 74, 75, 76, 77, 78, 79, 80, 81, 82, 83, 84, 85, 86, 87, 88, 89, 90, 91, 92, 93, 94, 95, 96, 97, 98, 99, 100, 101, 102, 103, 104, 105, 106, 107, 108, 109, 110, 111, 112, 113, 114, 115, 116, 117, 118, 119, 120, 121, 122, 123, 124, 125, 126, 127, 128, 129, 130, 131, 132, 133, 134, 135, 136, 137, 138, 139, 140, 141, 142, 143, 144] rfl (by decide +kernel)
set_option maxRecDepth 20000 in
theorem gX12_word_X12_scan : GoodIn wsX12_word (wsV RX12 209 RX12 yX12_scan wsX12_scan) := goodIn_app (goodIn_r _ [15, 16, 17, 6] rfl (by decide +kernel)) ggX12_word_X12_scan
theorem bX12_word_0 : dk cX12_word [(0, .aload_n 0, 1), (1, .getfield 180, 3), (4, .iconst 1, 1), (5, .if_icmp .ne 15, 3), (8, .aload_n 0, 1), (9, .getfield 191, 3), (12, .iload_n 1, 1), (13, .iload_n 2, 1), (14, .invokestatic 148, 3), (17, .ifCond .ne 9, 3), (20, .aload_n 0, 1), (21, .iconst 1, 1), (22, .invokevirtual 203, 3), (25, .ireturn, 1), (26, .aload_n 0, 1), (27, .aload_n 0, 1), (28, .getfield 191, 3), (31, .putfield 206, 3), (34, .aload_n 0, 1), (35, .invokevirtual 209, 3), (38, .iconst 1, 1), (39, .ireturn, 1)] = true := by decide +kernel
theorem dX12_word_0 : decode cX12_word 0 = .ok (.aload_n 0, 1) := dk_at bX12_word_0 0 rfl
theorem dX12_word_1 : decode cX12_word 1 = .ok (.getfield 180, 3) := dk_at bX12_word_0 1 rfl
theorem dX12_word_4 : decode cX12_word 4 = .ok (.iconst 1, 1) := dk_at bX12_word_0 2 rfl
theorem dX12_word_5 : decode cX12_word 5 = .ok (.if_icmp .ne 15, 3) := dk_at bX12_word_0 3 rfl
theorem dX12_word_8 : decode cX12_word 8 = .ok (.aload_n 0, 1) := dk_at bX12_word_0 4 rfl
theorem dX12_word_9 : decode cX12_word 9 = .ok (.getfield 191, 3) := dk_at bX12_word_0 5 rfl
theorem dX12_word_12 : decode cX12_word 12 = .ok (.iload_n 1, 1) := dk_at bX12_word_0 6 rfl
theorem dX12_word_13 : decode cX12_word 13 = .ok (.iload_n 2, 1) := dk_at bX12_word_0 7 rfl
theorem dX12_word_14 : decode cX12_word 14 = .ok (.invokestatic 148, 3) := dk_at bX12_word_0 8 rfl
theorem dX12_word_17 : decode cX12_word 17 = .ok (.ifCond .ne 9, 3) := dk_at bX12_word_0 9 rfl
theorem dX12_word_20 : decode cX12_word 20 = .ok (.aload_n 0, 1) := dk_at bX12_word_0 10 rfl
theorem dX12_word_21 : decode cX12_word 21 = .ok (.iconst 1, 1) := dk_at bX12_word_0 11 rfl
theorem dX12_word_22 : decode cX12_word 22 = .ok (.invokevirtual 203, 3) := dk_at bX12_word_0 12 rfl
theorem dX12_word_25 : decode cX12_word 25 = .ok (.ireturn, 1) := dk_at bX12_word_0 13 rfl
theorem dX12_word_26 : decode cX12_word 26 = .ok (.aload_n 0, 1) := dk_at bX12_word_0 14 rfl
theorem dX12_word_27 : decode cX12_word 27 = .ok (.aload_n 0, 1) := dk_at bX12_word_0 15 rfl
theorem dX12_word_28 : decode cX12_word 28 = .ok (.getfield 191, 3) := dk_at bX12_word_0 16 rfl
theorem dX12_word_31 : decode cX12_word 31 = .ok (.putfield 206, 3) := dk_at bX12_word_0 17 rfl
theorem dX12_word_34 : decode cX12_word 34 = .ok (.aload_n 0, 1) := dk_at bX12_word_0 18 rfl
theorem dX12_word_35 : decode cX12_word 35 = .ok (.invokevirtual 209, 3) := dk_at bX12_word_0 19 rfl
theorem dX12_word_38 : decode cX12_word 38 = .ok (.iconst 1, 1) := dk_at bX12_word_0 20 rfl
theorem dX12_word_39 : decode cX12_word 39 = .ok (.ireturn, 1) := dk_at bX12_word_0 21 rfl
set_option maxRecDepth 20000 in
theorem ggX12_number_X12_wrong : GoodIn wsX12_number wsX12_wrong := goodIn_r _ [8, 9, 10, 11, 83, 84, 85, 86, 87, 88, 89, 90, 91, 92, 93, 94, 95, 96, 97, 98, 99, 100, 101, 102, 103, 104, 105, 106, 107, 108, 109, 110, 111, 112, 113, 114, 115, 116, 117, 118, 119, 120, 121, 122, 123, 124, 125, 126, 127, 128, 129, 130, 131, 132, 133, 134, 135, 136, 137, 138, 139, 140, 141] rfl (by decide +kernel)
set_option maxRecDepth 20000 in
theorem gX12_number_X12_wrong : GoodIn wsX12_number (wsV RX12 203 RX12 yX12_wrong wsX12_wrong) := goodIn_app (goodIn_r _ [4, 5, 6, 7] rfl (by decide +kernel)) ggX12_number_X12_wrong
set_option maxRecDepth 20000 in
theorem ggX12_number_X12_scan : GoodIn wsX12_number wsX12_scan := goodIn_r _ [15, 16, 10, 1, 17, 2, 18, 19, 20, 7, 21, 22, 23, 24, 25, 26, 27, 28, 29, 30, 31, 32, 33, 34, 35, 36, 37, 38, 39, 40, 41, 42, 43, 44, 45, 46, 47, 48, 49, 50, 51, 52, 53, 54, 55, 56, 57, 58, 59, 60, 61, 62, 63, 64, 65, 66, 67, 68, 69, 70, 71, 72, 73, 74, 75, 76, 77, 78, 79, 80, 81, 82, 83, 84, 85, 86, 87, 88, 89, 90, 91, 92, 93, 94, 95, 96, 97, 98, 99, 100, 101, 102, 103, 104, 105, 106, 107, 108, 109, 110, 111, 112, 113, 114, 115, 116, 117, 118, 119, 120, 121, 122, 123, 124, 125, 126, 127, 128, 129, 130, 131, 132, 133, 134, 135, 136, 137, 138, 139, 140, 141] rfl (by decide +kernel)
set_option maxRecDepth 20000 in
theorem gX12_number_X12_scan : GoodIn wsX12_number (wsV RX12 209 RX12 yX12_scan wsX12_scan) := goodIn_app (goodIn_r _ [12, 13, 14, 7] rfl (by decide +kernel)) ggX12_number_X12_scan
theorem bX12_number_0 : dk cX12_number [(0, .aload_n 0, 1), (1, .getfield 180, 3), (4, .iconst 2, 1), (5, .if_icmp .eq 9, 3), (8, .aload_n 0, 1), (9, .iconst 1, 1), (10, .invokevirtual 203, 3), (13, .ireturn, 1), (14, .aload_n 0, 1), (15, .getfield 197, 3), (18, .iload_n 1, 1), (19, .if_icmp .le 9, 3), (22, .aload_n 0, 1), (23, .iconst 2, 1), (24, .invokevirtual 203, 3), (27, .ireturn, 1), (28, .aload_n 0, 1), (29, .aload_n 0, 1), (30, .getfield 197, 3), (33, .putfield 206, 3), (36, .aload_n 0, 1), (37, .invokevirtual 209, 3), (40, .iconst 1, 1), (41, .ireturn, 1)] = true := by decide +kernel
theorem dX12_number_0 : decode cX12_number 0 = .ok (.aload_n 0, 1) := dk_at bX12_number_0 0 rfl
theorem dX12_number_1 : decode cX12_number 1 = .ok (.getfield 180, 3) := dk_at bX12_number_0 1 rfl
theorem dX12_number_4 : decode cX12_number 4 = .ok (.iconst 2, 1) := dk_at bX12_number_0 2 rfl
theorem dX12_number_5 : decode cX12_number 5 = .ok (.if_icmp .eq 9, 3) := dk_at bX12_number_0 3 rfl
theorem dX12_number_8 : decode cX12_number 8 = .ok (.aload_n 0, 1) := dk_at bX12_number_0 4 rfl
theorem dX12_number_9 : decode cX12_number 9 = .ok (.iconst 1, 1) := dk_at bX12_number_0 5 rfl
theorem dX12_number_10 : decode cX12_number 10 = .ok (.invokevirtual 203, 3) := dk_at bX12_number_0 6 rfl
theorem dX12_number_13 : decode cX12_number 13 = .ok (.ireturn, 1) := dk_at bX12_number_0 7 rfl
theorem dX12_number_14 : decode cX12_number 14 = .ok (.aload_n 0, 1) := dk_at bX12_number_0 8 rfl
theorem dX12_number_15 : decode cX12_number 15 = .ok (.getfield 197, 3) := dk_at bX12_number_0 9 rfl
theorem dX12_number_18 : decode cX12_number 18 = .ok (.iload_n 1, 1) := dk_at bX12_number_0 10 rfl
theorem dX12_number_19 : decode cX12_number 19 = .ok (.if_icmp .le 9, 3) := dk_at bX12_number_0 11 rfl
theorem dX12_number_22 : decode cX12_number 22 = .ok (.aload_n 0, 1) := dk_at bX12_number_0 12 rfl
theorem dX12_number_23 : decode cX12_number 23 = .ok (.iconst 2, 1) := dk_at bX12_number_0 13 rfl
theorem dX12_number_24 : decode cX12_number 24 = .ok (.invokevirtual 203, 3) := dk_at bX12_number_0 14 rfl
theorem dX12_number_27 : decode cX12_number 27 = .ok (.ireturn, 1) := dk_at bX12_number_0 15 rfl
theorem dX12_number_28 : decode cX12_number 28 = .ok (.aload_n 0, 1) := dk_at bX12_number_0 16 rfl
theorem dX12_number_29 : decode cX12_number 29 = .ok (.aload_n 0, 1) := dk_at bX12_number_0 17 rfl
theorem dX12_number_30 : decode cX12_number 30 = .ok (.getfield 197, 3) := dk_at bX12_number_0 18 rfl
theorem dX12_number_33 : decode cX12_number 33 = .ok (.putfield 206, 3) := dk_at bX12_number_0 19 rfl
theorem dX12_number_36 : decode cX12_number 36 = .ok (.aload_n 0, 1) := dk_at bX12_number_0 20 rfl
theorem dX12_number_37 : decode cX12_number 37 = .ok (.invokevirtual 209, 3) := dk_at bX12_number_0 21 rfl
theorem dX12_number_40 : decode cX12_number 40 = .ok (.iconst 1, 1) := dk_at bX12_number_0 22 rfl
theorem dX12_number_41 : decode cX12_number 41 = .ok (.ireturn, 1) := dk_at bX12_number_0 23 rfl
set_option maxRecDepth 20000 in
theorem ggX12_readRule_X12_wrong : GoodIn wsX12_readRule wsX12_wrong := goodIn_r _ [10, 11, 12, 13, 96, 97, 98, 99, 100, 101, 102, 103, 104, 105, 106, 107, 108, 109, 110, 111, 112, 113, 114, 115, 116, 117, 118, 119, 120, 121, 122, 123, 124, 125, 126, 127, 128, 129, 130, 131, 132, 133, 134, 135, 136, 137, 138, 139, 140, 141, 142, 143, 144, 145, 146, 147, 148, 149, 150, 151, 152, 153, 154] rfl (by decide +kernel)
set_option maxRecDepth 20000 in
theorem gX12_readRule_X12_wrong : GoodIn wsX12_readRule (wsV RX12 203 RX12 yX12_wrong wsX12_wrong) := goodIn_app (goodIn_r _ [6, 7, 8, 9] rfl (by decide +kernel)) ggX12_readRule_X12_wrong
set_option maxRecDepth 20000 in
theorem ggX12_readRule_X12_scan : GoodIn wsX12_readRule wsX12_scan := goodIn_r _ [17, 18, 12, 1, 2, 19, 20, 21, 22, 9, 23, 24, 25, 26, 27, 28, 29, 30, 31, 32, 33, 34, 35, 36, 37, 38, 39, 40, 41, 42, 43, 44, 45, 46, 47, 48, 49, 50, 51, 52, 53, 54, 55, 56, 57, 58, 59, 60, 61, 62, 63, 64, 65, 66, 67, 68, 69, 70, 71, 72, 73, 74, 75, 76, 77, 78, 79, 80, 81, 82, 83, 84, 96, 97, 98, 99, 100, 101, 102, 103, 104, 105, 106, 107, 108, 109, 110, 111, 112, 113, 114, 115, 116, 117, 118, 119, 120, 121, 122, 123, 124, 125, 126, 127, 128, 129, 130, 131, 132, 133, 134, 135, 136, 137, 138, 139, 140, 141, 142, 143, 144, 145, 146, 147, 148, 149, 150, 151, 152, 153, 154] rfl (by decide +kernel)
set_option maxRecDepth 20000 in
theorem gX12_readRule_X12_scan : GoodIn wsX12_readRule (wsV RX12 209 RX12 yX12_scan wsX12_scan) := goodIn_app (goodIn_r _ [14, 15, 16, 9] rfl (by decide +kernel)) ggX12_readRule_X12_scan
set_option maxRecDepth 20000 in
theorem ggX12_readRule_X12_word : GoodIn wsX12_readRule wsX12_word := goodIn_r _ [88, 1, 2, 5, 89, 90, 9, 91, 6, 7, 8, 10, 11, 12, 13, 14, 15, 16, 17, 18, 19, 20, 21, 22, 23, 24, 25, 26, 27, 28, 29, 30, 31, 32, 33, 34, 35, 36, 37, 38, 39, 40, 41, 42, 43, 44, 45, 46, 47, 48, 49, 50, 51, 52, 53, 54, 55, 56, 57, 58, 59, 60, 61, 62, 63, 64, 65, 66, 67, 68, 69, 70, 71, 72, 73, 74, 75, 76, 77, 78, 79, 80, 81, 82, 83, 84, 96, 97, 98, 99, 100, 101, 102, 103, 104, 105, 106, 107, 108, 109, 110, 111, 112, 113, 114, 115, 116, 117, 118, 119, 120, 121, 122, 123, 124, 125, 126, 127, 128, 129, 130, 131, 132, 133, 134, 135, 136, 137, 138, 139, 140, 141, 142, 143, 144, 145, 146, 147, 148, 149, 150, 151, 152, 153, 154] rfl (by decide +kernel)
set_option maxRecDepth 20000 in
theorem gX12_readRule_X12_word : GoodIn wsX12_readRule (wsV RX12 212 RX12 yX12_word wsX12_word) := goodIn_app (goodIn_r _ [85, 86, 87, 9] rfl (by decide +kernel)) ggX12_readRule_X12_word
set_option maxRecDepth 20000 in
theorem ggX12_readRule_X12_number : GoodIn wsX12_readRule wsX12_number := goodIn_r _ [95, 1, 19, 5, 6, 7, 8, 9, 10, 11, 12, 13, 14, 15, 16, 17, 18, 2, 20, 21, 22, 23, 24, 25, 26, 27, 28, 29, 30, 31, 32, 33, 34, 35, 36, 37, 38, 39, 40, 41, 42, 43, 44, 45, 46, 47, 48, 49, 50, 51, 52, 53, 54, 55, 56, 57, 58, 59, 60, 61, 62, 63, 64, 65, 66, 67, 68, 69, 70, 71, 72, 73, 74, 75, 76, 77, 78, 79, 80, 81, 82, 83, 84, 96, 97, 98, 99, 100, 101, 102, 103, 104, 105, 106, 107, 108, 109, 110, 111, 112, 113, 114, 115, 116, 117, 118, 119, 120, 121, 122, 123, 124, 125, 126, 127, 128, 129, 130, 131, 132, 133, 134, 135, 136, 137, 138, 139, 140, 141, 142, 143, 144, 145, 146, 147, 148, 149, 150, 151, 152, 153, 154] rfl (by decide +kernel)
set_option maxRecDepth 20000 in
theorem gX12_readRule_X12_number : GoodIn wsX12_readRule (wsV RX12 216 RX12 yX12_number wsX12_number) := goodIn_app (goodIn_r _ [92, 93, 94, 9] rfl (by decide +kernel)) ggX12_readRule_X12_number
theorem bX12_readRule_0 : dk cX12_readRule [(0, .aload_n 0, 1), (1, .getfield 180, 3), (4, .iconst 1, 1), (5, .if_icmp .ne 10, 3), (8, .aload_n 0, 1), (9, .getfield 191, 3), (12, .ifCond .eq 9, 3), (15, .aload_n 0, 1), (16, .iconst 1, 1), (17, .invokevirtual 203, 3), (20, .ireturn, 1), (21, .aload_n 0, 1), (22, .getfield 21, 3), (25, .bipush 6, 2), (27, .iaload, 1), (28, .bipush 12, 2), (30, .if_icmp .ne 9, 3), (33, .aload_n 0, 1), (34, .iconst 4, 1), (35, .invokevirtual 203, 3), (38, .ireturn, 1), (39, .iconst 4, 1), (40, .bipush 72, 2), (42, .aload_n 0, 1), (43, .getfield 21, 3), (46, .bipush 6, 2), (48, .iaload, 1), (49, .iadd, 1), (50, .imul, 1), (51, .istore_n 1, 1), (52, .aload_n 0, 1), (53, .invokevirtual 209, 3), (56, .aload_n 0, 1), (57, .iconst 1, 1), (58, .iconst 4, 1), (59, .invokevirtual 212, 3), (62, .ifCond .ne 5, 3), (65, .iconst 0, 1), (66, .ireturn, 1), (67, .aload_n 0, 1)] = true := by decide +kernel
theorem dX12_readRule_0 : decode cX12_readRule 0 = .ok (.aload_n 0, 1) := dk_at bX12_readRule_0 0 rfl
theorem dX12_readRule_1 : decode cX12_readRule 1 = .ok (.getfield 180, 3) := dk_at bX12_readRule_0 1 rfl
theorem dX12_readRule_4 : decode cX12_readRule 4 = .ok (.iconst 1, 1) := dk_at bX12_readRule_0 2 rfl
theorem dX12_readRule_5 : decode cX12_readRule 5 = .ok (.if_icmp .ne 10, 3) := dk_at bX12_readRule_0 3 rfl
theorem dX12_readRule_8 : decode cX12_readRule 8 = .ok (.aload_n 0, 1) := dk_at bX12_readRule_0 4 rfl
theorem dX12_readRule_9 : decode cX12_readRule 9 = .ok (.getfield 191, 3) := dk_at bX12_readRule_0 5 rfl
theorem dX12_readRule_12 : decode cX12_readRule 12 = .ok (.ifCond .eq 9, 3) := dk_at bX12_readRule_0 6 rfl
theorem dX12_readRule_15 : decode cX12_readRule 15 = .ok (.aload_n 0, 1) := dk_at bX12_readRule_0 7 rfl
theorem dX12_readRule_16 : decode cX12_readRule 16 = .ok (.iconst 1, 1) := dk_at bX12_readRule_0 8 rfl
theorem dX12_readRule_17 : decode cX12_readRule 17 = .ok (.invokevirtual 203, 3) := dk_at bX12_readRule_0 9 rfl
theorem dX12_readRule_20 : decode cX12_readRule 20 = .ok (.ireturn, 1) := dk_at bX12_readRule_0 10 rfl
theorem dX12_readRule_21 : decode cX12_readRule 21 = .ok (.aload_n 0, 1) := dk_at bX12_readRule_0 11 rfl
theorem dX12_readRule_22 : decode cX12_readRule 22 = .ok (.getfield 21, 3) := dk_at bX12_readRule_0 12 rfl
theorem dX12_readRule_25 : decode cX12_readRule 25 = .ok (.bipush 6, 2) := dk_at bX12_readRule_0 13 rfl
theorem dX12_readRule_27 : decode cX12_readRule 27 = .ok (.iaload, 1) := dk_at bX12_readRule_0 14 rfl
theorem dX12_readRule_28 : decode cX12_readRule 28 = .ok (.bipush 12, 2) := dk_at bX12_readRule_0 15 rfl
theorem dX12_readRule_30 : decode cX12_readRule 30 = .ok (.if_icmp .ne 9, 3) := dk_at bX12_readRule_0 16 rfl
theorem dX12_readRule_33 : decode cX12_readRule 33 = .ok (.aload_n 0, 1) := dk_at bX12_readRule_0 17 rfl
theorem dX12_readRule_34 : decode cX12_readRule 34 = .ok (.iconst 4, 1) := dk_at bX12_readRule_0 18 rfl
theorem dX12_readRule_35 : decode cX12_readRule 35 = .ok (.invokevirtual 203, 3) := dk_at bX12_readRule_0 19 rfl
theorem dX12_readRule_38 : decode cX12_readRule 38 = .ok (.ireturn, 1) := dk_at bX12_readRule_0 20 rfl
theorem dX12_readRule_39 : decode cX12_readRule 39 = .ok (.iconst 4, 1) := dk_at bX12_readRule_0 21 rfl
theorem dX12_readRule_40 : decode cX12_readRule 40 = .ok (.bipush 72, 2) := dk_at bX12_readRule_0 22 rfl
theorem dX12_readRule_42 : decode cX12_readRule 42 = .ok (.aload_n 0, 1) := dk_at bX12_readRule_0 23 rfl
theorem dX12_readRule_43 : decode cX12_readRule 43 = .ok (.getfield 21, 3) := dk_at bX12_readRule_0 24 rfl
theorem dX12_readRule_46 : decode cX12_readRule 46 = .ok (.bipush 6, 2) := dk_at bX12_readRule_0 25 rfl
theorem dX12_readRule_48 : decode cX12_readRule 48 = .ok (.iaload, 1) := dk_at bX12_readRule_0 26 rfl
theorem dX12_readRule_49 : decode cX12_readRule 49 = .ok (.iadd, 1) := dk_at bX12_readRule_0 27 rfl
theorem dX12_readRule_50 : decode cX12_readRule 50 = .ok (.imul, 1) := dk_at bX12_readRule_0 28 rfl
theorem dX12_readRule_51 : decode cX12_readRule 51 = .ok (.istore_n 1, 1) := dk_at bX12_readRule_0 29 rfl
theorem dX12_readRule_52 : decode cX12_readRule 52 = .ok (.aload_n 0, 1) := dk_at bX12_readRule_0 30 rfl
theorem dX12_readRule_53 : decode cX12_readRule 53 = .ok (.invokevirtual 209, 3) := dk_at bX12_readRule_0 31 rfl
theorem dX12_readRule_56 : decode cX12_readRule 56 = .ok (.aload_n 0, 1) := dk_at bX12_readRule_0 32 rfl
theorem dX12_readRule_57 : decode cX12_readRule 57 = .ok (.iconst 1, 1) := dk_at bX12_readRule_0 33 rfl
theorem dX12_readRule_58 : decode cX12_readRule 58 = .ok (.iconst 4, 1) := dk_at bX12_readRule_0 34 rfl
theorem dX12_readRule_59 : decode cX12_readRule 59 = .ok (.invokevirtual 212, 3) := dk_at bX12_readRule_0 35 rfl
theorem dX12_readRule_62 : decode cX12_readRule 62 = .ok (.ifCond .ne 5, 3) := dk_at bX12_readRule_0 36 rfl
theorem dX12_readRule_65 : decode cX12_readRule 65 = .ok (.iconst 0, 1) := dk_at bX12_readRule_0 37 rfl
theorem dX12_readRule_66 : decode cX12_readRule 66 = .ok (.ireturn, 1) := dk_at bX12_readRule_0 38 rfl
theorem dX12_readRule_67 : decode cX12_readRule 67 = .ok (.aload_n 0, 1) := dk_at bX12_readRule_0 39 rfl
theorem bX12_readRule_68 : dk cX12_readRule [(68, .getfield 17, 3), (71, .iload_n 1, 1), (72, .aload_n 0, 1), (73, .getfield 206, 3), (76, .iconst 1, 1), (77, .isub, 1), (78, .iastore, 1), (79, .aload_n 0, 1), (80, .iconst 5, 1), (81, .bipush 6, 2), (83, .invokevirtual 212, 3), (86, .ifCond .ne 5, 3), (89, .iconst 0, 1), (90, .ireturn, 1), (91, .aload_n 0, 1), (92, .getfield 17, 3), (95, .iload_n 1, 1), (96, .iconst 1, 1), (97, .iadd, 1), (98, .aload_n 0, 1), (99, .getfield 206, 3), (102, .iconst 5, 1), (103, .isub, 1), (104, .iastore, 1), (105, .aload_n 0, 1), (106, .sipush 9999, 3), (109, .invokevirtual 216, 3), (112, .ifCond .ne 5, 3), (115, .iconst 0, 1), (116, .ireturn, 1), (117, .aload_n 0, 1), (118, .getfield 17, 3), (121, .iload_n 1, 1), (122, .iconst 2, 1), (123, .iadd, 1), (124, .aload_n 0, 1), (125, .getfield 206, 3), (128, .iastore, 1), (129, .aload_n 0, 1), (130, .bipush 7, 2)] = true := by decide +kernel
theorem dX12_readRule_68 : decode cX12_readRule 68 = .ok (.getfield 17, 3) := dk_at bX12_readRule_68 0 rfl
theorem dX12_readRule_71 : decode cX12_readRule 71 = .ok (.iload_n 1, 1) := dk_at bX12_readRule_68 1 rfl
theorem dX12_readRule_72 : decode cX12_readRule 72 = .ok (.aload_n 0, 1) := dk_at bX12_readRule_68 2 rfl
theorem dX12_readRule_73 : decode cX12_readRule 73 = .ok (.getfield 206, 3) := dk_at bX12_readRule_68 3 rfl
theorem dX12_readRule_76 : decode cX12_readRule 76 = .ok (.iconst 1, 1) := dk_at bX12_readRule_68 4 rfl
theorem dX12_readRule_77 : decode cX12_readRule 77 = .ok (.isub, 1) := dk_at bX12_readRule_68 5 rfl
theorem dX12_readRule_78 : decode cX12_readRule 78 = .ok (.iastore, 1) := dk_at bX12_readRule_68 6 rfl
theorem dX12_readRule_79 : decode cX12_readRule 79 = .ok (.aload_n 0, 1) := dk_at bX12_readRule_68 7 rfl
theorem dX12_readRule_80 : decode cX12_readRule 80 = .ok (.iconst 5, 1) := dk_at bX12_readRule_68 8 rfl
theorem dX12_readRule_81 : decode cX12_readRule 81 = .ok (.bipush 6, 2) := dk_at bX12_readRule_68 9 rfl
theorem dX12_readRule_83 : decode cX12_readRule 83 = .ok (.invokevirtual 212, 3) := dk_at bX12_readRule_68 10 rfl
theorem dX12_readRule_86 : decode cX12_readRule 86 = .ok (.ifCond .ne 5, 3) := dk_at bX12_readRule_68 11 rfl
theorem dX12_readRule_89 : decode cX12_readRule 89 = .ok (.iconst 0, 1) := dk_at bX12_readRule_68 12 rfl
theorem dX12_readRule_90 : decode cX12_readRule 90 = .ok (.ireturn, 1) := dk_at bX12_readRule_68 13 rfl
theorem dX12_readRule_91 : decode cX12_readRule 91 = .ok (.aload_n 0, 1) := dk_at bX12_readRule_68 14 rfl
theorem dX12_readRule_92 : decode cX12_readRule 92 = .ok (.getfield 17, 3) := dk_at bX12_readRule_68 15 rfl
theorem dX12_readRule_95 : decode cX12_readRule 95 = .ok (.iload_n 1, 1) := dk_at bX12_readRule_68 16 rfl
theorem dX12_readRule_96 : decode cX12_readRule 96 = .ok (.iconst 1, 1) := dk_at bX12_readRule_68 17 rfl
theorem dX12_readRule_97 : decode cX12_readRule 97 = .ok (.iadd, 1) := dk_at bX12_readRule_68 18 rfl
theorem dX12_readRule_98 : decode cX12_readRule 98 = .ok (.aload_n 0, 1) := dk_at bX12_readRule_68 19 rfl
theorem dX12_readRule_99 : decode cX12_readRule 99 = .ok (.getfield 206, 3) := dk_at bX12_readRule_68 20 rfl
theorem dX12_readRule_102 : decode cX12_readRule 102 = .ok (.iconst 5, 1) := dk_at bX12_readRule_68 21 rfl
theorem dX12_readRule_103 : decode cX12_readRule 103 = .ok (.isub, 1) := dk_at bX12_readRule_68 22 rfl
theorem dX12_readRule_104 : decode cX12_readRule 104 = .ok (.iastore, 1) := dk_at bX12_readRule_68 23 rfl
theorem dX12_readRule_105 : decode cX12_readRule 105 = .ok (.aload_n 0, 1) := dk_at bX12_readRule_68 24 rfl
theorem dX12_readRule_106 : decode cX12_readRule 106 = .ok (.sipush 9999, 3) := dk_at bX12_readRule_68 25 rfl
theorem dX12_readRule_109 : decode cX12_readRule 109 = .ok (.invokevirtual 216, 3) := dk_at bX12_readRule_68 26 rfl
theorem dX12_readRule_112 : decode cX12_readRule 112 = .ok (.ifCond .ne 5, 3) := dk_at bX12_readRule_68 27 rfl
theorem dX12_readRule_115 : decode cX12_readRule 115 = .ok (.iconst 0, 1) := dk_at bX12_readRule_68 28 rfl
theorem dX12_readRule_116 : decode cX12_readRule 116 = .ok (.ireturn, 1) := dk_at bX12_readRule_68 29 rfl
theorem dX12_readRule_117 : decode cX12_readRule 117 = .ok (.aload_n 0, 1) := dk_at bX12_readRule_68 30 rfl
theorem dX12_readRule_118 : decode cX12_readRule 118 = .ok (.getfield 17, 3) := dk_at bX12_readRule_68 31 rfl
theorem dX12_readRule_121 : decode cX12_readRule 121 = .ok (.iload_n 1, 1) := dk_at bX12_readRule_68 32 rfl
theorem dX12_readRule_122 : decode cX12_readRule 122 = .ok (.iconst 2, 1) := dk_at bX12_readRule_68 33 rfl
theorem dX12_readRule_123 : decode cX12_readRule 123 = .ok (.iadd, 1) := dk_at bX12_readRule_68 34 rfl
theorem dX12_readRule_124 : decode cX12_readRule 124 = .ok (.aload_n 0, 1) := dk_at bX12_readRule_68 35 rfl
theorem dX12_readRule_125 : decode cX12_readRule 125 = .ok (.getfield 206, 3) := dk_at bX12_readRule_68 36 rfl
theorem dX12_readRule_128 : decode cX12_readRule 128 = .ok (.iastore, 1) := dk_at bX12_readRule_68 37 rfl
theorem dX12_readRule_129 : decode cX12_readRule 129 = .ok (.aload_n 0, 1) := dk_at bX12_readRule_68 38 rfl
theorem dX12_readRule_130 : decode cX12_readRule 130 = .ok (.bipush 7, 2) := dk_at bX12_readRule_68 39 rfl
theorem bX12_readRule_132 : dk cX12_readRule [(132, .bipush 7, 2), (134, .invokevirtual 212, 3), (137, .ifCond .eq 14, 3), (140, .aload_n 0, 1), (141, .bipush 8, 2), (143, .bipush 10, 2), (145, .invokevirtual 212, 3), (148, .ifCond .ne 5, 3), (151, .iconst 0, 1), (152, .ireturn, 1), (153, .aload_n 0, 1), (154, .getfield 17, 3), (157, .iload_n 1, 1), (158, .iconst 3, 1), (159, .iadd, 1), (160, .aload_n 0, 1), (161, .getfield 206, 3), (164, .bipush 8, 2), (166, .isub, 1), (167, .iastore, 1), (168, .aload_n 0, 1), (169, .getfield 21, 3), (172, .bipush 6, 2), (174, .dup2, 1), (175, .iaload, 1), (176, .iconst 1, 1), (177, .iadd, 1), (178, .iastore, 1), (179, .aload_n 0, 1), (180, .getfield 180, 3), (183, .iconst 3, 1), (184, .if_icmp .eq 9, 3), (187, .aload_n 0, 1), (188, .iconst 1, 1), (189, .invokevirtual 203, 3), (192, .ireturn, 1), (193, .aload_n 0, 1), (194, .invokevirtual 209, 3), (197, .iconst 1, 1), (198, .ireturn, 1)] = true := by decide +kernel
theorem dX12_readRule_132 : decode cX12_readRule 132 = .ok (.bipush 7, 2) := dk_at bX12_readRule_132 0 rfl
theorem dX12_readRule_134 : decode cX12_readRule 134 = .ok (.invokevirtual 212, 3) := dk_at bX12_readRule_132 1 rfl
theorem dX12_readRule_137 : decode cX12_readRule 137 = .ok (.ifCond .eq 14, 3) := dk_at bX12_readRule_132 2 rfl
theorem dX12_readRule_140 : decode cX12_readRule 140 = .ok (.aload_n 0, 1) := dk_at bX12_readRule_132 3 rfl
theorem dX12_readRule_141 : decode cX12_readRule 141 = .ok (.bipush 8, 2) := dk_at bX12_readRule_132 4 rfl
theorem dX12_readRule_143 : decode cX12_readRule 143 = .ok (.bipush 10, 2) := dk_at bX12_readRule_132 5 rfl
theorem dX12_readRule_145 : decode cX12_readRule 145 = .ok (.invokevirtual 212, 3) := dk_at bX12_readRule_132 6 rfl
theorem dX12_readRule_148 : decode cX12_readRule 148 = .ok (.ifCond .ne 5, 3) := dk_at bX12_readRule_132 7 rfl
theorem dX12_readRule_151 : decode cX12_readRule 151 = .ok (.iconst 0, 1) := dk_at bX12_readRule_132 8 rfl
theorem dX12_readRule_152 : decode cX12_readRule 152 = .ok (.ireturn, 1) := dk_at bX12_readRule_132 9 rfl
theorem dX12_readRule_153 : decode cX12_readRule 153 = .ok (.aload_n 0, 1) := dk_at bX12_readRule_132 10 rfl
theorem dX12_readRule_154 : decode cX12_readRule 154 = .ok (.getfield 17, 3) := dk_at bX12_readRule_132 11 rfl
theorem dX12_readRule_157 : decode cX12_readRule 157 = .ok (.iload_n 1, 1) := dk_at bX12_readRule_132 12 rfl
theorem dX12_readRule_158 : decode cX12_readRule 158 = .ok (.iconst 3, 1) := dk_at bX12_readRule_132 13 rfl
theorem dX12_readRule_159 : decode cX12_readRule 159 = .ok (.iadd, 1) := dk_at bX12_readRule_132 14 rfl
theorem dX12_readRule_160 : decode cX12_readRule 160 = .ok (.aload_n 0, 1) := dk_at bX12_readRule_132 15 rfl
theorem dX12_readRule_161 : decode cX12_readRule 161 = .ok (.getfield 206, 3) := dk_at bX12_readRule_132 16 rfl
theorem dX12_readRule_164 : decode cX12_readRule 164 = .ok (.bipush 8, 2) := dk_at bX12_readRule_132 17 rfl
theorem dX12_readRule_166 : decode cX12_readRule 166 = .ok (.isub, 1) := dk_at bX12_readRule_132 18 rfl
theorem dX12_readRule_167 : decode cX12_readRule 167 = .ok (.iastore, 1) := dk_at bX12_readRule_132 19 rfl
theorem dX12_readRule_168 : decode cX12_readRule 168 = .ok (.aload_n 0, 1) := dk_at bX12_readRule_132 20 rfl
theorem dX12_readRule_169 : decode cX12_readRule 169 = .ok (.getfield 21, 3) := dk_at bX12_readRule_132 21 rfl
theorem dX12_readRule_172 : decode cX12_readRule 172 = .ok (.bipush 6, 2) := dk_at bX12_readRule_132 22 rfl
theorem dX12_readRule_174 : decode cX12_readRule 174 = .ok (.dup2, 1) := dk_at bX12_readRule_132 23 rfl
theorem dX12_readRule_175 : decode cX12_readRule 175 = .ok (.iaload, 1) := dk_at bX12_readRule_132 24 rfl
theorem dX12_readRule_176 : decode cX12_readRule 176 = .ok (.iconst 1, 1) := dk_at bX12_readRule_132 25 rfl
theorem dX12_readRule_177 : decode cX12_readRule 177 = .ok (.iadd, 1) := dk_at bX12_readRule_132 26 rfl
theorem dX12_readRule_178 : decode cX12_readRule 178 = .ok (.iastore, 1) := dk_at bX12_readRule_132 27 rfl
theorem dX12_readRule_179 : decode cX12_readRule 179 = .ok (.aload_n 0, 1) := dk_at bX12_readRule_132 28 rfl
theorem dX12_readRule_180 : decode cX12_readRule 180 = .ok (.getfield 180, 3) := dk_at bX12_readRule_132 29 rfl
theorem dX12_readRule_183 : decode cX12_readRule 183 = .ok (.iconst 3, 1) := dk_at bX12_readRule_132 30 rfl
theorem dX12_readRule_184 : decode cX12_readRule 184 = .ok (.if_icmp .eq 9, 3) := dk_at bX12_readRule_132 31 rfl
theorem dX12_readRule_187 : decode cX12_readRule 187 = .ok (.aload_n 0, 1) := dk_at bX12_readRule_132 32 rfl
theorem dX12_readRule_188 : decode cX12_readRule 188 = .ok (.iconst 1, 1) := dk_at bX12_readRule_132 33 rfl
theorem dX12_readRule_189 : decode cX12_readRule 189 = .ok (.invokevirtual 203, 3) := dk_at bX12_readRule_132 34 rfl
theorem dX12_readRule_192 : decode cX12_readRule 192 = .ok (.ireturn, 1) := dk_at bX12_readRule_132 35 rfl
theorem dX12_readRule_193 : decode cX12_readRule 193 = .ok (.aload_n 0, 1) := dk_at bX12_readRule_132 36 rfl
theorem dX12_readRule_194 : decode cX12_readRule 194 = .ok (.invokevirtual 209, 3) := dk_at bX12_readRule_132 37 rfl
theorem dX12_readRule_197 : decode cX12_readRule 197 = .ok (.iconst 1, 1) := dk_at bX12_readRule_132 38 rfl
theorem dX12_readRule_198 : decode cX12_readRule 198 = .ok (.ireturn, 1) := dk_at bX12_readRule_132 39 rfl
theorem bX12_taking_0 : dk cX12_taking [(0, .aload_n 0, 1), (1, .aload_n 0, 1), (2, .getfield 152, 3), (5, .putfield 155, 3), (8, .aload_n 0, 1), (9, .iconst 0, 1), (10, .putfield 152, 3), (13, .aload_n 0, 1), (14, .iconst 0, 1), (15, .putfield 174, 3), (18, .return_, 1)] = true := by decide +kernel
theorem dX12_taking_0 : decode cX12_taking 0 = .ok (.aload_n 0, 1) := dk_at bX12_taking_0 0 rfl
theorem dX12_taking_1 : decode cX12_taking 1 = .ok (.aload_n 0, 1) := dk_at bX12_taking_0 1 rfl
theorem dX12_taking_2 : decode cX12_taking 2 = .ok (.getfield 152, 3) := dk_at bX12_taking_0 2 rfl
theorem dX12_taking_5 : decode cX12_taking 5 = .ok (.putfield 155, 3) := dk_at bX12_taking_0 3 rfl
theorem dX12_taking_8 : decode cX12_taking 8 = .ok (.aload_n 0, 1) := dk_at bX12_taking_0 4 rfl
theorem dX12_taking_9 : decode cX12_taking 9 = .ok (.iconst 0, 1) := dk_at bX12_taking_0 5 rfl
theorem dX12_taking_10 : decode cX12_taking 10 = .ok (.putfield 152, 3) := dk_at bX12_taking_0 6 rfl
theorem dX12_taking_13 : decode cX12_taking 13 = .ok (.aload_n 0, 1) := dk_at bX12_taking_0 7 rfl
theorem dX12_taking_14 : decode cX12_taking 14 = .ok (.iconst 0, 1) := dk_at bX12_taking_0 8 rfl
theorem dX12_taking_15 : decode cX12_taking 15 = .ok (.putfield 174, 3) := dk_at bX12_taking_0 9 rfl
theorem dX12_taking_18 : decode cX12_taking 18 = .ok (.return_, 1) := dk_at bX12_taking_0 10 rfl
set_option maxRecDepth 20000 in
theorem ggX12_isBoat_X12_in : GoodIn wsX12_isBoat wsX12_in := goodIn_r _ [4] rfl (by decide +kernel)
set_option maxRecDepth 20000 in
theorem gX12_isBoat_X12_in : GoodIn wsX12_isBoat (va_wsS RX12 148 yX12_in wsX12_in) := goodIn_app (goodIn_r _ [1, 2, 3] rfl (by decide +kernel)) ggX12_isBoat_X12_in
theorem bX12_isBoat_0 : dk cX12_isBoat [(0, .iload_n 0, 1), (1, .iconst 0, 1), (2, .iconst 5, 1), (3, .invokestatic 148, 3), (6, .ireturn, 1)] = true := by decide +kernel
theorem dX12_isBoat_0 : decode cX12_isBoat 0 = .ok (.iload_n 0, 1) := dk_at bX12_isBoat_0 0 rfl
theorem dX12_isBoat_1 : decode cX12_isBoat 1 = .ok (.iconst 0, 1) := dk_at bX12_isBoat_0 1 rfl
theorem dX12_isBoat_2 : decode cX12_isBoat 2 = .ok (.iconst 5, 1) := dk_at bX12_isBoat_0 2 rfl
theorem dX12_isBoat_3 : decode cX12_isBoat 3 = .ok (.invokestatic 148, 3) := dk_at bX12_isBoat_0 3 rfl
theorem dX12_isBoat_6 : decode cX12_isBoat 6 = .ok (.ireturn, 1) := dk_at bX12_isBoat_0 4 rfl
set_option maxRecDepth 20000 in
theorem ggX12_skipper_X12_taking : GoodIn wsX12_skipper wsX12_taking := goodIn_r _ [10, 11, 12, 13, 108, 109, 110, 111, 112, 113, 114, 115, 116, 117, 118, 119, 120, 121, 122, 123, 124, 125, 126, 127, 128, 129, 130, 131, 132, 133, 134, 135, 136, 137, 138, 139, 140, 141, 142, 143, 144, 145, 146, 147, 148, 149, 150, 151, 152, 153, 154, 155, 156, 157, 158, 159, 160, 161, 162, 163, 164, 165, 166] rfl (by decide +kernel)
set_option maxRecDepth 20000 in
theorem gX12_skipper_X12_taking : GoodIn wsX12_skipper (wsV RX12 219 RX12 yX12_taking wsX12_taking) := goodIn_app (goodIn_r _ [6, 7, 8, 9] rfl (by decide +kernel)) ggX12_skipper_X12_taking
set_option maxRecDepth 20000 in
theorem ggX12_skipper_X12_isBoat : GoodIn wsX12_skipper wsX12_isBoat := goodIn_r _ [16, 17, 18, 9, 19] rfl (by decide +kernel)
set_option maxRecDepth 20000 in
theorem gX12_skipper_X12_isBoat : GoodIn wsX12_skipper (va_wsS RX12 222 yX12_isBoat wsX12_isBoat) := goodIn_app (goodIn_r _ [14, 15, 9] rfl (by decide +kernel)) ggX12_skipper_X12_isBoat
set_option maxRecDepth 20000 in
theorem ggX12_skipper_X12_scan : GoodIn wsX12_skipper wsX12_scan := goodIn_r _ [23, 13, 24, 4, 25, 26, 27, 28, 29, 9, 30, 12, 31, 32, 33, 34, 35, 36, 37, 38, 39, 40, 41, 42, 43, 44, 45, 46, 47, 48, 49, 50, 51, 52, 53, 54, 55, 56, 57, 58, 59, 60, 61, 62, 63, 64, 65, 66, 67, 68, 69, 70, 71, 72, 73, 74, 75, 76, 77, 78, 79, 80, 81, 82, 83, 84, 85, 86, 87, 88, 89, 90, 108, 109, 110, 111, 112, 113, 114, 115, 116, 117, 118, 119, 120, 121, 122, 123, 124, 125, 126, 127, 128, 129, 130, 131, 132, 133, 134, 135, 136, 137, 138, 139, 140, 141, 142, 143, 144, 145, 146, 147, 148, 149, 150, 151, 152, 153, 154, 155, 156, 157, 158, 159, 160, 161, 162, 163, 164, 165, 166] rfl (by decide +kernel)
set_option maxRecDepth 20000 in
theorem gX12_skipper_X12_scan : GoodIn wsX12_skipper (wsV RX12 209 RX12 yX12_scan wsX12_scan) := goodIn_app (goodIn_r _ [20, 21, 22, 9] rfl (by decide +kernel)) ggX12_skipper_X12_scan
set_option maxRecDepth 20000 in
theorem ggX12_skipper_X12_readRule : GoodIn wsX12_skipper wsX12_readRule := goodIn_r _ [94, 4, 25, 3, 5, 95, 96, 97, 98, 9, 99, 1, 24, 2, 20, 21, 22, 23, 13, 26, 27, 28, 29, 30, 12, 31, 32, 33, 34, 35, 36, 37, 38, 39, 40, 41, 42, 43, 44, 45, 46, 47, 48, 49, 50, 51, 52, 53, 54, 55, 56, 57, 58, 59, 60, 61, 62, 63, 64, 65, 66, 67, 68, 69, 70, 71, 72, 73, 74, 75, 76, 77, 78, 79, 80, 81, 82, 83, 84, 85, 86, 87, 88, 89, 90, 100, 101, 102, 103, 17, 18, 19, 104, 105, 106, 107, 108, 109, 110, 111, 112, 113, 114, 115, 116, 117, 118, 119, 120, 121, 122, 123, 124, 125, 126, 127, 128, 129, 130, 131, 132, 133, 134, 135, 136, 137, 138, 139, 140, 141, 142, 143, 144, 145, 146, 147, 148, 149, 150, 151, 152, 153, 154, 155, 156, 157, 158, 159, 160, 161, 162, 163, 164, 165, 166] rfl (by decide +kernel)
set_option maxRecDepth 20000 in
theorem gX12_skipper_X12_readRule : GoodIn wsX12_skipper (wsV RX12 225 RX12 yX12_readRule wsX12_readRule) := goodIn_app (goodIn_r _ [91, 92, 93, 9] rfl (by decide +kernel)) ggX12_skipper_X12_readRule
theorem bX12_skipper_0 : dk cX12_skipper [(0, .aload_n 0, 1), (1, .invokevirtual 219, 3), (4, .iload_n 1, 1), (5, .invokestatic 222, 3), (8, .ifCond .ne 6, 3), (11, .bipush (-2), 2), (13, .ireturn, 1), (14, .aload_n 0, 1), (15, .iconst 0, 1), (16, .putfield 200, 3), (19, .aload_n 0, 1), (20, .iconst (-1), 1), (21, .putfield 13, 3), (24, .aload_n 0, 1), (25, .getfield 21, 3), (28, .bipush 6, 2), (30, .iconst 0, 1), (31, .iastore, 1), (32, .aload_n 0, 1), (33, .invokevirtual 209, 3), (36, .aload_n 0, 1), (37, .getfield 180, 3), (40, .iconst 4, 1), (41, .if_icmp .eq 12, 3), (44, .aload_n 0, 1), (45, .invokevirtual 225, 3), (48, .ifCond .ne (-12), 3), (51, .iconst (-1), 1), (52, .ireturn, 1), (53, .aload_n 0, 1), (54, .getfield 21, 3), (57, .iload_n 1, 1), (58, .aload_n 0, 1), (59, .getfield 21, 3), (62, .bipush 6, 2), (64, .iaload, 1), (65, .iastore, 1), (66, .iconst 0, 1), (67, .istore_n 2, 1), (68, .iload_n 2, 1)] = true := by decide +kernel
theorem dX12_skipper_0 : decode cX12_skipper 0 = .ok (.aload_n 0, 1) := dk_at bX12_skipper_0 0 rfl
theorem dX12_skipper_1 : decode cX12_skipper 1 = .ok (.invokevirtual 219, 3) := dk_at bX12_skipper_0 1 rfl
theorem dX12_skipper_4 : decode cX12_skipper 4 = .ok (.iload_n 1, 1) := dk_at bX12_skipper_0 2 rfl
theorem dX12_skipper_5 : decode cX12_skipper 5 = .ok (.invokestatic 222, 3) := dk_at bX12_skipper_0 3 rfl
theorem dX12_skipper_8 : decode cX12_skipper 8 = .ok (.ifCond .ne 6, 3) := dk_at bX12_skipper_0 4 rfl
theorem dX12_skipper_11 : decode cX12_skipper 11 = .ok (.bipush (-2), 2) := dk_at bX12_skipper_0 5 rfl
theorem dX12_skipper_13 : decode cX12_skipper 13 = .ok (.ireturn, 1) := dk_at bX12_skipper_0 6 rfl
theorem dX12_skipper_14 : decode cX12_skipper 14 = .ok (.aload_n 0, 1) := dk_at bX12_skipper_0 7 rfl
theorem dX12_skipper_15 : decode cX12_skipper 15 = .ok (.iconst 0, 1) := dk_at bX12_skipper_0 8 rfl
theorem dX12_skipper_16 : decode cX12_skipper 16 = .ok (.putfield 200, 3) := dk_at bX12_skipper_0 9 rfl
theorem dX12_skipper_19 : decode cX12_skipper 19 = .ok (.aload_n 0, 1) := dk_at bX12_skipper_0 10 rfl
theorem dX12_skipper_20 : decode cX12_skipper 20 = .ok (.iconst (-1), 1) := dk_at bX12_skipper_0 11 rfl
theorem dX12_skipper_21 : decode cX12_skipper 21 = .ok (.putfield 13, 3) := dk_at bX12_skipper_0 12 rfl
theorem dX12_skipper_24 : decode cX12_skipper 24 = .ok (.aload_n 0, 1) := dk_at bX12_skipper_0 13 rfl
theorem dX12_skipper_25 : decode cX12_skipper 25 = .ok (.getfield 21, 3) := dk_at bX12_skipper_0 14 rfl
theorem dX12_skipper_28 : decode cX12_skipper 28 = .ok (.bipush 6, 2) := dk_at bX12_skipper_0 15 rfl
theorem dX12_skipper_30 : decode cX12_skipper 30 = .ok (.iconst 0, 1) := dk_at bX12_skipper_0 16 rfl
theorem dX12_skipper_31 : decode cX12_skipper 31 = .ok (.iastore, 1) := dk_at bX12_skipper_0 17 rfl
theorem dX12_skipper_32 : decode cX12_skipper 32 = .ok (.aload_n 0, 1) := dk_at bX12_skipper_0 18 rfl
theorem dX12_skipper_33 : decode cX12_skipper 33 = .ok (.invokevirtual 209, 3) := dk_at bX12_skipper_0 19 rfl
theorem dX12_skipper_36 : decode cX12_skipper 36 = .ok (.aload_n 0, 1) := dk_at bX12_skipper_0 20 rfl
theorem dX12_skipper_37 : decode cX12_skipper 37 = .ok (.getfield 180, 3) := dk_at bX12_skipper_0 21 rfl
theorem dX12_skipper_40 : decode cX12_skipper 40 = .ok (.iconst 4, 1) := dk_at bX12_skipper_0 22 rfl
theorem dX12_skipper_41 : decode cX12_skipper 41 = .ok (.if_icmp .eq 12, 3) := dk_at bX12_skipper_0 23 rfl
theorem dX12_skipper_44 : decode cX12_skipper 44 = .ok (.aload_n 0, 1) := dk_at bX12_skipper_0 24 rfl
theorem dX12_skipper_45 : decode cX12_skipper 45 = .ok (.invokevirtual 225, 3) := dk_at bX12_skipper_0 25 rfl
theorem dX12_skipper_48 : decode cX12_skipper 48 = .ok (.ifCond .ne (-12), 3) := dk_at bX12_skipper_0 26 rfl
theorem dX12_skipper_51 : decode cX12_skipper 51 = .ok (.iconst (-1), 1) := dk_at bX12_skipper_0 27 rfl
theorem dX12_skipper_52 : decode cX12_skipper 52 = .ok (.ireturn, 1) := dk_at bX12_skipper_0 28 rfl
theorem dX12_skipper_53 : decode cX12_skipper 53 = .ok (.aload_n 0, 1) := dk_at bX12_skipper_0 29 rfl
theorem dX12_skipper_54 : decode cX12_skipper 54 = .ok (.getfield 21, 3) := dk_at bX12_skipper_0 30 rfl
theorem dX12_skipper_57 : decode cX12_skipper 57 = .ok (.iload_n 1, 1) := dk_at bX12_skipper_0 31 rfl
theorem dX12_skipper_58 : decode cX12_skipper 58 = .ok (.aload_n 0, 1) := dk_at bX12_skipper_0 32 rfl
theorem dX12_skipper_59 : decode cX12_skipper 59 = .ok (.getfield 21, 3) := dk_at bX12_skipper_0 33 rfl
theorem dX12_skipper_62 : decode cX12_skipper 62 = .ok (.bipush 6, 2) := dk_at bX12_skipper_0 34 rfl
theorem dX12_skipper_64 : decode cX12_skipper 64 = .ok (.iaload, 1) := dk_at bX12_skipper_0 35 rfl
theorem dX12_skipper_65 : decode cX12_skipper 65 = .ok (.iastore, 1) := dk_at bX12_skipper_0 36 rfl
theorem dX12_skipper_66 : decode cX12_skipper 66 = .ok (.iconst 0, 1) := dk_at bX12_skipper_0 37 rfl
theorem dX12_skipper_67 : decode cX12_skipper 67 = .ok (.istore_n 2, 1) := dk_at bX12_skipper_0 38 rfl
theorem dX12_skipper_68 : decode cX12_skipper 68 = .ok (.iload_n 2, 1) := dk_at bX12_skipper_0 39 rfl
theorem bX12_skipper_69 : dk cX12_skipper [(69, .bipush 48, 2), (71, .if_icmp .ge 30, 3), (74, .aload_n 0, 1), (75, .getfield 17, 3), (78, .bipush 48, 2), (80, .iload_n 1, 1), (81, .imul, 1), (82, .iload_n 2, 1), (83, .iadd, 1), (84, .aload_n 0, 1), (85, .getfield 17, 3), (88, .sipush 288, 3), (91, .iload_n 2, 1), (92, .iadd, 1), (93, .iaload, 1), (94, .iastore, 1), (95, .iinc 2 1, 3), (98, .goto (-30), 3), (101, .aload_n 0, 1), (102, .getfield 21, 3), (105, .iload_n 1, 1), (106, .iaload, 1), (107, .ireturn, 1)] = true := by decide +kernel
theorem dX12_skipper_69 : decode cX12_skipper 69 = .ok (.bipush 48, 2) := dk_at bX12_skipper_69 0 rfl
theorem dX12_skipper_71 : decode cX12_skipper 71 = .ok (.if_icmp .ge 30, 3) := dk_at bX12_skipper_69 1 rfl
theorem dX12_skipper_74 : decode cX12_skipper 74 = .ok (.aload_n 0, 1) := dk_at bX12_skipper_69 2 rfl
theorem dX12_skipper_75 : decode cX12_skipper 75 = .ok (.getfield 17, 3) := dk_at bX12_skipper_69 3 rfl
theorem dX12_skipper_78 : decode cX12_skipper 78 = .ok (.bipush 48, 2) := dk_at bX12_skipper_69 4 rfl
theorem dX12_skipper_80 : decode cX12_skipper 80 = .ok (.iload_n 1, 1) := dk_at bX12_skipper_69 5 rfl
theorem dX12_skipper_81 : decode cX12_skipper 81 = .ok (.imul, 1) := dk_at bX12_skipper_69 6 rfl
theorem dX12_skipper_82 : decode cX12_skipper 82 = .ok (.iload_n 2, 1) := dk_at bX12_skipper_69 7 rfl
theorem dX12_skipper_83 : decode cX12_skipper 83 = .ok (.iadd, 1) := dk_at bX12_skipper_69 8 rfl
theorem dX12_skipper_84 : decode cX12_skipper 84 = .ok (.aload_n 0, 1) := dk_at bX12_skipper_69 9 rfl
theorem dX12_skipper_85 : decode cX12_skipper 85 = .ok (.getfield 17, 3) := dk_at bX12_skipper_69 10 rfl
theorem dX12_skipper_88 : decode cX12_skipper 88 = .ok (.sipush 288, 3) := dk_at bX12_skipper_69 11 rfl
theorem dX12_skipper_91 : decode cX12_skipper 91 = .ok (.iload_n 2, 1) := dk_at bX12_skipper_69 12 rfl
theorem dX12_skipper_92 : decode cX12_skipper 92 = .ok (.iadd, 1) := dk_at bX12_skipper_69 13 rfl
theorem dX12_skipper_93 : decode cX12_skipper 93 = .ok (.iaload, 1) := dk_at bX12_skipper_69 14 rfl
theorem dX12_skipper_94 : decode cX12_skipper 94 = .ok (.iastore, 1) := dk_at bX12_skipper_69 15 rfl
theorem dX12_skipper_95 : decode cX12_skipper 95 = .ok (.iinc 2 1, 3) := dk_at bX12_skipper_69 16 rfl
theorem dX12_skipper_98 : decode cX12_skipper 98 = .ok (.goto (-30), 3) := dk_at bX12_skipper_69 17 rfl
theorem dX12_skipper_101 : decode cX12_skipper 101 = .ok (.aload_n 0, 1) := dk_at bX12_skipper_69 18 rfl
theorem dX12_skipper_102 : decode cX12_skipper 102 = .ok (.getfield 21, 3) := dk_at bX12_skipper_69 19 rfl
theorem dX12_skipper_105 : decode cX12_skipper 105 = .ok (.iload_n 1, 1) := dk_at bX12_skipper_69 20 rfl
theorem dX12_skipper_106 : decode cX12_skipper 106 = .ok (.iaload, 1) := dk_at bX12_skipper_69 21 rfl
theorem dX12_skipper_107 : decode cX12_skipper 107 = .ok (.ireturn, 1) := dk_at bX12_skipper_69 22 rfl
set_option maxRecDepth 20000 in
theorem ggX12_readLine_X12_wrong : GoodIn wsX12_readLine wsX12_wrong := goodIn_r _ [12, 13, 14, 15, 98, 99, 100, 101, 102, 103, 104, 105, 106, 107, 108, 109, 110, 111, 112, 113, 114, 115, 116, 117, 118, 119, 120, 121, 122, 123, 124, 125, 126, 127, 128, 129, 130, 131, 132, 133, 134, 135, 136, 137, 138, 139, 140, 141, 142, 143, 144, 145, 146, 147, 148, 149, 150, 151, 152, 153, 154, 155, 156] rfl (by decide +kernel)
set_option maxRecDepth 20000 in
theorem gX12_readLine_X12_wrong : GoodIn wsX12_readLine (wsV RX12 203 RX12 yX12_wrong wsX12_wrong) := goodIn_app (goodIn_r _ [8, 9, 10, 11] rfl (by decide +kernel)) ggX12_readLine_X12_wrong
set_option maxRecDepth 20000 in
theorem ggX12_readLine_X12_scan : GoodIn wsX12_readLine wsX12_scan := goodIn_r _ [19, 20, 14, 1, 2, 21, 22, 23, 24, 11, 25, 26, 27, 28, 29, 30, 31, 32, 33, 34, 35, 36, 37, 38, 39, 40, 41, 42, 43, 44, 45, 46, 47, 48, 49, 50, 51, 52, 53, 54, 55, 56, 57, 58, 59, 60, 61, 62, 63, 64, 65, 66, 67, 68, 69, 70, 71, 72, 73, 74, 75, 76, 77, 78, 79, 80, 81, 82, 83, 84, 85, 86, 98, 99, 100, 101, 102, 103, 104, 105, 106, 107, 108, 109, 110, 111, 112, 113, 114, 115, 116, 117, 118, 119, 120, 121, 122, 123, 124, 125, 126, 127, 128, 129, 130, 131, 132, 133, 134, 135, 136, 137, 138, 139, 140, 141, 142, 143, 144, 145, 146, 147, 148, 149, 150, 151, 152, 153, 154, 155, 156] rfl (by decide +kernel)
set_option maxRecDepth 20000 in
theorem gX12_readLine_X12_scan : GoodIn wsX12_readLine (wsV RX12 209 RX12 yX12_scan wsX12_scan) := goodIn_app (goodIn_r _ [16, 17, 18, 11] rfl (by decide +kernel)) ggX12_readLine_X12_scan
set_option maxRecDepth 20000 in
theorem ggX12_readLine_X12_number : GoodIn wsX12_readLine wsX12_number := goodIn_r _ [90, 1, 21, 5, 8, 9, 10, 11, 12, 13, 14, 15, 16, 17, 18, 19, 20, 2, 22, 23, 24, 25, 26, 27, 28, 29, 30, 31, 32, 33, 34, 35, 36, 37, 38, 39, 40, 41, 42, 43, 44, 45, 46, 47, 48, 49, 50, 51, 52, 53, 54, 55, 56, 57, 58, 59, 60, 61, 62, 63, 64, 65, 66, 67, 68, 69, 70, 71, 72, 73, 74, 75, 76, 77, 78, 79, 80, 81, 82, 83, 84, 85, 86, 98, 99, 100, 101, 102, 103, 104, 105, 106, 107, 108, 109, 110, 111, 112, 113, 114, 115, 116, 117, 118, 119, 120, 121, 122, 123, 124, 125, 126, 127, 128, 129, 130, 131, 132, 133, 134, 135, 136, 137, 138, 139, 140, 141, 142, 143, 144, 145, 146, 147, 148, 149, 150, 151, 152, 153, 154, 155, 156] rfl (by decide +kernel)
set_option maxRecDepth 20000 in
theorem gX12_readLine_X12_number : GoodIn wsX12_readLine (wsV RX12 216 RX12 yX12_number wsX12_number) := goodIn_app (goodIn_r _ [87, 88, 89, 11] rfl (by decide +kernel)) ggX12_readLine_X12_number
set_option maxRecDepth 20000 in
theorem ggX12_readLine_X12_word : GoodIn wsX12_readLine wsX12_word := goodIn_r _ [94, 1, 2, 5, 95, 96, 11, 97, 8, 9, 10, 12, 13, 14, 15, 16, 17, 18, 19, 20, 21, 22, 23, 24, 25, 26, 27, 28, 29, 30, 31, 32, 33, 34, 35, 36, 37, 38, 39, 40, 41, 42, 43, 44, 45, 46, 47, 48, 49, 50, 51, 52, 53, 54, 55, 56, 57, 58, 59, 60, 61, 62, 63, 64, 65, 66, 67, 68, 69, 70, 71, 72, 73, 74, 75, 76, 77, 78, 79, 80, 81, 82, 83, 84, 85, 86, 98, 99, 100, 101, 102, 103, 104, 105, 106, 107, 108, 109, 110, 111, 112, 113, 114, 115, 116, 117, 118, 119, 120, 121, 122, 123, 124, 125, 126, 127, 128, 129, 130, 131, 132, 133, 134, 135, 136, 137, 138, 139, 140, 141, 142, 143, 144, 145, 146, 147, 148, 149, 150, 151, 152, 153, 154, 155, 156] rfl (by decide +kernel)
set_option maxRecDepth 20000 in
theorem gX12_readLine_X12_word : GoodIn wsX12_readLine (wsV RX12 212 RX12 yX12_word wsX12_word) := goodIn_app (goodIn_r _ [91, 92, 93, 11] rfl (by decide +kernel)) ggX12_readLine_X12_word
theorem bX12_readLine_0 : dk cX12_readLine [(0, .aload_n 0, 1), (1, .getfield 180, 3), (4, .iconst 1, 1), (5, .if_icmp .ne 29, 3), (8, .aload_n 0, 1), (9, .getfield 191, 3), (12, .bipush 11, 2), (14, .if_icmp .eq 26, 3), (17, .aload_n 0, 1), (18, .getfield 191, 3), (21, .bipush 14, 2), (23, .if_icmp .eq 17, 3), (26, .aload_n 0, 1), (27, .getfield 191, 3), (30, .iconst 1, 1), (31, .if_icmp .eq 9, 3), (34, .aload_n 0, 1), (35, .iconst 1, 1), (36, .invokevirtual 203, 3), (39, .ireturn, 1), (40, .aload_n 0, 1), (41, .getfield 191, 3), (44, .istore_n 3, 1), (45, .iload_n 3, 1), (46, .bipush 14, 2), (48, .if_icmp .ne 7, 3), (51, .iload_n 1, 1), (52, .ifCond .ne 12, 3), (55, .iload_n 3, 1), (56, .iconst 1, 1), (57, .if_icmp .ne 13, 3), (60, .iload_n 2, 1), (61, .ifCond .eq 9, 3), (64, .aload_n 0, 1), (65, .iconst 3, 1), (66, .invokevirtual 203, 3), (69, .ireturn, 1), (70, .iload_n 3, 1), (71, .bipush 11, 2), (73, .if_icmp .ne 21, 3)] = true := by decide +kernel
theorem dX12_readLine_0 : decode cX12_readLine 0 = .ok (.aload_n 0, 1) := dk_at bX12_readLine_0 0 rfl
theorem dX12_readLine_1 : decode cX12_readLine 1 = .ok (.getfield 180, 3) := dk_at bX12_readLine_0 1 rfl
theorem dX12_readLine_4 : decode cX12_readLine 4 = .ok (.iconst 1, 1) := dk_at bX12_readLine_0 2 rfl
theorem dX12_readLine_5 : decode cX12_readLine 5 = .ok (.if_icmp .ne 29, 3) := dk_at bX12_readLine_0 3 rfl
theorem dX12_readLine_8 : decode cX12_readLine 8 = .ok (.aload_n 0, 1) := dk_at bX12_readLine_0 4 rfl
theorem dX12_readLine_9 : decode cX12_readLine 9 = .ok (.getfield 191, 3) := dk_at bX12_readLine_0 5 rfl
theorem dX12_readLine_12 : decode cX12_readLine 12 = .ok (.bipush 11, 2) := dk_at bX12_readLine_0 6 rfl
theorem dX12_readLine_14 : decode cX12_readLine 14 = .ok (.if_icmp .eq 26, 3) := dk_at bX12_readLine_0 7 rfl
theorem dX12_readLine_17 : decode cX12_readLine 17 = .ok (.aload_n 0, 1) := dk_at bX12_readLine_0 8 rfl
theorem dX12_readLine_18 : decode cX12_readLine 18 = .ok (.getfield 191, 3) := dk_at bX12_readLine_0 9 rfl
theorem dX12_readLine_21 : decode cX12_readLine 21 = .ok (.bipush 14, 2) := dk_at bX12_readLine_0 10 rfl
theorem dX12_readLine_23 : decode cX12_readLine 23 = .ok (.if_icmp .eq 17, 3) := dk_at bX12_readLine_0 11 rfl
theorem dX12_readLine_26 : decode cX12_readLine 26 = .ok (.aload_n 0, 1) := dk_at bX12_readLine_0 12 rfl
theorem dX12_readLine_27 : decode cX12_readLine 27 = .ok (.getfield 191, 3) := dk_at bX12_readLine_0 13 rfl
theorem dX12_readLine_30 : decode cX12_readLine 30 = .ok (.iconst 1, 1) := dk_at bX12_readLine_0 14 rfl
theorem dX12_readLine_31 : decode cX12_readLine 31 = .ok (.if_icmp .eq 9, 3) := dk_at bX12_readLine_0 15 rfl
theorem dX12_readLine_34 : decode cX12_readLine 34 = .ok (.aload_n 0, 1) := dk_at bX12_readLine_0 16 rfl
theorem dX12_readLine_35 : decode cX12_readLine 35 = .ok (.iconst 1, 1) := dk_at bX12_readLine_0 17 rfl
theorem dX12_readLine_36 : decode cX12_readLine 36 = .ok (.invokevirtual 203, 3) := dk_at bX12_readLine_0 18 rfl
theorem dX12_readLine_39 : decode cX12_readLine 39 = .ok (.ireturn, 1) := dk_at bX12_readLine_0 19 rfl
theorem dX12_readLine_40 : decode cX12_readLine 40 = .ok (.aload_n 0, 1) := dk_at bX12_readLine_0 20 rfl
theorem dX12_readLine_41 : decode cX12_readLine 41 = .ok (.getfield 191, 3) := dk_at bX12_readLine_0 21 rfl
theorem dX12_readLine_44 : decode cX12_readLine 44 = .ok (.istore_n 3, 1) := dk_at bX12_readLine_0 22 rfl
theorem dX12_readLine_45 : decode cX12_readLine 45 = .ok (.iload_n 3, 1) := dk_at bX12_readLine_0 23 rfl
theorem dX12_readLine_46 : decode cX12_readLine 46 = .ok (.bipush 14, 2) := dk_at bX12_readLine_0 24 rfl
theorem dX12_readLine_48 : decode cX12_readLine 48 = .ok (.if_icmp .ne 7, 3) := dk_at bX12_readLine_0 25 rfl
theorem dX12_readLine_51 : decode cX12_readLine 51 = .ok (.iload_n 1, 1) := dk_at bX12_readLine_0 26 rfl
theorem dX12_readLine_52 : decode cX12_readLine 52 = .ok (.ifCond .ne 12, 3) := dk_at bX12_readLine_0 27 rfl
theorem dX12_readLine_55 : decode cX12_readLine 55 = .ok (.iload_n 3, 1) := dk_at bX12_readLine_0 28 rfl
theorem dX12_readLine_56 : decode cX12_readLine 56 = .ok (.iconst 1, 1) := dk_at bX12_readLine_0 29 rfl
theorem dX12_readLine_57 : decode cX12_readLine 57 = .ok (.if_icmp .ne 13, 3) := dk_at bX12_readLine_0 30 rfl
theorem dX12_readLine_60 : decode cX12_readLine 60 = .ok (.iload_n 2, 1) := dk_at bX12_readLine_0 31 rfl
theorem dX12_readLine_61 : decode cX12_readLine 61 = .ok (.ifCond .eq 9, 3) := dk_at bX12_readLine_0 32 rfl
theorem dX12_readLine_64 : decode cX12_readLine 64 = .ok (.aload_n 0, 1) := dk_at bX12_readLine_0 33 rfl
theorem dX12_readLine_65 : decode cX12_readLine 65 = .ok (.iconst 3, 1) := dk_at bX12_readLine_0 34 rfl
theorem dX12_readLine_66 : decode cX12_readLine 66 = .ok (.invokevirtual 203, 3) := dk_at bX12_readLine_0 35 rfl
theorem dX12_readLine_69 : decode cX12_readLine 69 = .ok (.ireturn, 1) := dk_at bX12_readLine_0 36 rfl
theorem dX12_readLine_70 : decode cX12_readLine 70 = .ok (.iload_n 3, 1) := dk_at bX12_readLine_0 37 rfl
theorem dX12_readLine_71 : decode cX12_readLine 71 = .ok (.bipush 11, 2) := dk_at bX12_readLine_0 38 rfl
theorem dX12_readLine_73 : decode cX12_readLine 73 = .ok (.if_icmp .ne 21, 3) := dk_at bX12_readLine_0 39 rfl
theorem bX12_readLine_76 : dk cX12_readLine [(76, .aload_n 0, 1), (77, .getfield 27, 3), (80, .bipush 6, 2), (82, .iaload, 1), (83, .bipush 12, 2), (85, .if_icmp .ne 9, 3), (88, .aload_n 0, 1), (89, .iconst 4, 1), (90, .invokevirtual 203, 3), (93, .ireturn, 1), (94, .aload_n 0, 1), (95, .invokevirtual 209, 3), (98, .iload_n 3, 1), (99, .bipush 11, 2), (101, .if_icmp .eq 48, 3), (104, .aload_n 0, 1), (105, .bipush 9, 2), (107, .invokevirtual 216, 3), (110, .ifCond .ne 5, 3), (113, .iconst 0, 1), (114, .ireturn, 1), (115, .iload_n 3, 1), (116, .bipush 14, 2), (118, .if_icmp .ne 17, 3), (121, .aload_n 0, 1), (122, .getfield 30, 3), (125, .bipush 6, 2), (127, .aload_n 0, 1), (128, .getfield 206, 3), (131, .iastore, 1), (132, .goto 167, 3), (135, .aload_n 0, 1), (136, .getfield 33, 3), (139, .bipush 6, 2), (141, .aload_n 0, 1), (142, .getfield 206, 3), (145, .iastore, 1), (146, .goto 153, 3), (149, .bipush 6, 2), (151, .bipush 72, 2)] = true := by decide +kernel
theorem dX12_readLine_76 : decode cX12_readLine 76 = .ok (.aload_n 0, 1) := dk_at bX12_readLine_76 0 rfl
theorem dX12_readLine_77 : decode cX12_readLine 77 = .ok (.getfield 27, 3) := dk_at bX12_readLine_76 1 rfl
theorem dX12_readLine_80 : decode cX12_readLine 80 = .ok (.bipush 6, 2) := dk_at bX12_readLine_76 2 rfl
theorem dX12_readLine_82 : decode cX12_readLine 82 = .ok (.iaload, 1) := dk_at bX12_readLine_76 3 rfl
theorem dX12_readLine_83 : decode cX12_readLine 83 = .ok (.bipush 12, 2) := dk_at bX12_readLine_76 4 rfl
theorem dX12_readLine_85 : decode cX12_readLine 85 = .ok (.if_icmp .ne 9, 3) := dk_at bX12_readLine_76 5 rfl
theorem dX12_readLine_88 : decode cX12_readLine 88 = .ok (.aload_n 0, 1) := dk_at bX12_readLine_76 6 rfl
theorem dX12_readLine_89 : decode cX12_readLine 89 = .ok (.iconst 4, 1) := dk_at bX12_readLine_76 7 rfl
theorem dX12_readLine_90 : decode cX12_readLine 90 = .ok (.invokevirtual 203, 3) := dk_at bX12_readLine_76 8 rfl
theorem dX12_readLine_93 : decode cX12_readLine 93 = .ok (.ireturn, 1) := dk_at bX12_readLine_76 9 rfl
theorem dX12_readLine_94 : decode cX12_readLine 94 = .ok (.aload_n 0, 1) := dk_at bX12_readLine_76 10 rfl
theorem dX12_readLine_95 : decode cX12_readLine 95 = .ok (.invokevirtual 209, 3) := dk_at bX12_readLine_76 11 rfl
theorem dX12_readLine_98 : decode cX12_readLine 98 = .ok (.iload_n 3, 1) := dk_at bX12_readLine_76 12 rfl
theorem dX12_readLine_99 : decode cX12_readLine 99 = .ok (.bipush 11, 2) := dk_at bX12_readLine_76 13 rfl
theorem dX12_readLine_101 : decode cX12_readLine 101 = .ok (.if_icmp .eq 48, 3) := dk_at bX12_readLine_76 14 rfl
theorem dX12_readLine_104 : decode cX12_readLine 104 = .ok (.aload_n 0, 1) := dk_at bX12_readLine_76 15 rfl
theorem dX12_readLine_105 : decode cX12_readLine 105 = .ok (.bipush 9, 2) := dk_at bX12_readLine_76 16 rfl
theorem dX12_readLine_107 : decode cX12_readLine 107 = .ok (.invokevirtual 216, 3) := dk_at bX12_readLine_76 17 rfl
theorem dX12_readLine_110 : decode cX12_readLine 110 = .ok (.ifCond .ne 5, 3) := dk_at bX12_readLine_76 18 rfl
theorem dX12_readLine_113 : decode cX12_readLine 113 = .ok (.iconst 0, 1) := dk_at bX12_readLine_76 19 rfl
theorem dX12_readLine_114 : decode cX12_readLine 114 = .ok (.ireturn, 1) := dk_at bX12_readLine_76 20 rfl
theorem dX12_readLine_115 : decode cX12_readLine 115 = .ok (.iload_n 3, 1) := dk_at bX12_readLine_76 21 rfl
theorem dX12_readLine_116 : decode cX12_readLine 116 = .ok (.bipush 14, 2) := dk_at bX12_readLine_76 22 rfl
theorem dX12_readLine_118 : decode cX12_readLine 118 = .ok (.if_icmp .ne 17, 3) := dk_at bX12_readLine_76 23 rfl
theorem dX12_readLine_121 : decode cX12_readLine 121 = .ok (.aload_n 0, 1) := dk_at bX12_readLine_76 24 rfl
theorem dX12_readLine_122 : decode cX12_readLine 122 = .ok (.getfield 30, 3) := dk_at bX12_readLine_76 25 rfl
theorem dX12_readLine_125 : decode cX12_readLine 125 = .ok (.bipush 6, 2) := dk_at bX12_readLine_76 26 rfl
theorem dX12_readLine_127 : decode cX12_readLine 127 = .ok (.aload_n 0, 1) := dk_at bX12_readLine_76 27 rfl
theorem dX12_readLine_128 : decode cX12_readLine 128 = .ok (.getfield 206, 3) := dk_at bX12_readLine_76 28 rfl
theorem dX12_readLine_131 : decode cX12_readLine 131 = .ok (.iastore, 1) := dk_at bX12_readLine_76 29 rfl
theorem dX12_readLine_132 : decode cX12_readLine 132 = .ok (.goto 167, 3) := dk_at bX12_readLine_76 30 rfl
theorem dX12_readLine_135 : decode cX12_readLine 135 = .ok (.aload_n 0, 1) := dk_at bX12_readLine_76 31 rfl
theorem dX12_readLine_136 : decode cX12_readLine 136 = .ok (.getfield 33, 3) := dk_at bX12_readLine_76 32 rfl
theorem dX12_readLine_139 : decode cX12_readLine 139 = .ok (.bipush 6, 2) := dk_at bX12_readLine_76 33 rfl
theorem dX12_readLine_141 : decode cX12_readLine 141 = .ok (.aload_n 0, 1) := dk_at bX12_readLine_76 34 rfl
theorem dX12_readLine_142 : decode cX12_readLine 142 = .ok (.getfield 206, 3) := dk_at bX12_readLine_76 35 rfl
theorem dX12_readLine_145 : decode cX12_readLine 145 = .ok (.iastore, 1) := dk_at bX12_readLine_76 36 rfl
theorem dX12_readLine_146 : decode cX12_readLine 146 = .ok (.goto 153, 3) := dk_at bX12_readLine_76 37 rfl
theorem dX12_readLine_149 : decode cX12_readLine 149 = .ok (.bipush 6, 2) := dk_at bX12_readLine_76 38 rfl
theorem dX12_readLine_151 : decode cX12_readLine 151 = .ok (.bipush 72, 2) := dk_at bX12_readLine_76 39 rfl
theorem bX12_readLine_153 : dk cX12_readLine [(153, .aload_n 0, 1), (154, .getfield 27, 3), (157, .bipush 6, 2), (159, .iaload, 1), (160, .iadd, 1), (161, .imul, 1), (162, .istore 4, 2), (164, .iconst 0, 1), (165, .istore 5, 2), (167, .iload 5, 2), (169, .iconst 4, 1), (170, .if_icmp .ge 46, 3), (173, .aload_n 0, 1), (174, .iload 5, 2), (176, .iconst 2, 1), (177, .irem, 1), (178, .ifCond .ne 8, 3), (181, .bipush 29, 2), (183, .goto 5, 3), (186, .bipush 19, 2), (188, .invokevirtual 216, 3), (191, .ifCond .ne 5, 3), (194, .iconst 0, 1), (195, .ireturn, 1), (196, .aload_n 0, 1), (197, .getfield 24, 3), (200, .iload 4, 2), (202, .iload 5, 2), (204, .iadd, 1), (205, .aload_n 0, 1), (206, .getfield 206, 3), (209, .iastore, 1), (210, .iinc 5 1, 3), (213, .goto (-46), 3), (216, .aload_n 0, 1), (217, .bipush 12, 2), (219, .bipush 12, 2), (221, .invokevirtual 212, 3), (224, .ifCond .eq 13, 3), (227, .aload_n 0, 1)] = true := by decide +kernel
theorem dX12_readLine_153 : decode cX12_readLine 153 = .ok (.aload_n 0, 1) := dk_at bX12_readLine_153 0 rfl
theorem dX12_readLine_154 : decode cX12_readLine 154 = .ok (.getfield 27, 3) := dk_at bX12_readLine_153 1 rfl
theorem dX12_readLine_157 : decode cX12_readLine 157 = .ok (.bipush 6, 2) := dk_at bX12_readLine_153 2 rfl
theorem dX12_readLine_159 : decode cX12_readLine 159 = .ok (.iaload, 1) := dk_at bX12_readLine_153 3 rfl
theorem dX12_readLine_160 : decode cX12_readLine 160 = .ok (.iadd, 1) := dk_at bX12_readLine_153 4 rfl
theorem dX12_readLine_161 : decode cX12_readLine 161 = .ok (.imul, 1) := dk_at bX12_readLine_153 5 rfl
theorem dX12_readLine_162 : decode cX12_readLine 162 = .ok (.istore 4, 2) := dk_at bX12_readLine_153 6 rfl
theorem dX12_readLine_164 : decode cX12_readLine 164 = .ok (.iconst 0, 1) := dk_at bX12_readLine_153 7 rfl
theorem dX12_readLine_165 : decode cX12_readLine 165 = .ok (.istore 5, 2) := dk_at bX12_readLine_153 8 rfl
theorem dX12_readLine_167 : decode cX12_readLine 167 = .ok (.iload 5, 2) := dk_at bX12_readLine_153 9 rfl
theorem dX12_readLine_169 : decode cX12_readLine 169 = .ok (.iconst 4, 1) := dk_at bX12_readLine_153 10 rfl
theorem dX12_readLine_170 : decode cX12_readLine 170 = .ok (.if_icmp .ge 46, 3) := dk_at bX12_readLine_153 11 rfl
theorem dX12_readLine_173 : decode cX12_readLine 173 = .ok (.aload_n 0, 1) := dk_at bX12_readLine_153 12 rfl
theorem dX12_readLine_174 : decode cX12_readLine 174 = .ok (.iload 5, 2) := dk_at bX12_readLine_153 13 rfl
theorem dX12_readLine_176 : decode cX12_readLine 176 = .ok (.iconst 2, 1) := dk_at bX12_readLine_153 14 rfl
theorem dX12_readLine_177 : decode cX12_readLine 177 = .ok (.irem, 1) := dk_at bX12_readLine_153 15 rfl
theorem dX12_readLine_178 : decode cX12_readLine 178 = .ok (.ifCond .ne 8, 3) := dk_at bX12_readLine_153 16 rfl
theorem dX12_readLine_181 : decode cX12_readLine 181 = .ok (.bipush 29, 2) := dk_at bX12_readLine_153 17 rfl
theorem dX12_readLine_183 : decode cX12_readLine 183 = .ok (.goto 5, 3) := dk_at bX12_readLine_153 18 rfl
theorem dX12_readLine_186 : decode cX12_readLine 186 = .ok (.bipush 19, 2) := dk_at bX12_readLine_153 19 rfl
theorem dX12_readLine_188 : decode cX12_readLine 188 = .ok (.invokevirtual 216, 3) := dk_at bX12_readLine_153 20 rfl
theorem dX12_readLine_191 : decode cX12_readLine 191 = .ok (.ifCond .ne 5, 3) := dk_at bX12_readLine_153 21 rfl
theorem dX12_readLine_194 : decode cX12_readLine 194 = .ok (.iconst 0, 1) := dk_at bX12_readLine_153 22 rfl
theorem dX12_readLine_195 : decode cX12_readLine 195 = .ok (.ireturn, 1) := dk_at bX12_readLine_153 23 rfl
theorem dX12_readLine_196 : decode cX12_readLine 196 = .ok (.aload_n 0, 1) := dk_at bX12_readLine_153 24 rfl
theorem dX12_readLine_197 : decode cX12_readLine 197 = .ok (.getfield 24, 3) := dk_at bX12_readLine_153 25 rfl
theorem dX12_readLine_200 : decode cX12_readLine 200 = .ok (.iload 4, 2) := dk_at bX12_readLine_153 26 rfl
theorem dX12_readLine_202 : decode cX12_readLine 202 = .ok (.iload 5, 2) := dk_at bX12_readLine_153 27 rfl
theorem dX12_readLine_204 : decode cX12_readLine 204 = .ok (.iadd, 1) := dk_at bX12_readLine_153 28 rfl
theorem dX12_readLine_205 : decode cX12_readLine 205 = .ok (.aload_n 0, 1) := dk_at bX12_readLine_153 29 rfl
theorem dX12_readLine_206 : decode cX12_readLine 206 = .ok (.getfield 206, 3) := dk_at bX12_readLine_153 30 rfl
theorem dX12_readLine_209 : decode cX12_readLine 209 = .ok (.iastore, 1) := dk_at bX12_readLine_153 31 rfl
theorem dX12_readLine_210 : decode cX12_readLine 210 = .ok (.iinc 5 1, 3) := dk_at bX12_readLine_153 32 rfl
theorem dX12_readLine_213 : decode cX12_readLine 213 = .ok (.goto (-46), 3) := dk_at bX12_readLine_153 33 rfl
theorem dX12_readLine_216 : decode cX12_readLine 216 = .ok (.aload_n 0, 1) := dk_at bX12_readLine_153 34 rfl
theorem dX12_readLine_217 : decode cX12_readLine 217 = .ok (.bipush 12, 2) := dk_at bX12_readLine_153 35 rfl
theorem dX12_readLine_219 : decode cX12_readLine 219 = .ok (.bipush 12, 2) := dk_at bX12_readLine_153 36 rfl
theorem dX12_readLine_221 : decode cX12_readLine 221 = .ok (.invokevirtual 212, 3) := dk_at bX12_readLine_153 37 rfl
theorem dX12_readLine_224 : decode cX12_readLine 224 = .ok (.ifCond .eq 13, 3) := dk_at bX12_readLine_153 38 rfl
theorem dX12_readLine_227 : decode cX12_readLine 227 = .ok (.aload_n 0, 1) := dk_at bX12_readLine_153 39 rfl
theorem bX12_readLine_228 : dk cX12_readLine [(228, .sipush 359, 3), (231, .invokevirtual 216, 3), (234, .ifCond .ne 5, 3), (237, .iconst 0, 1), (238, .ireturn, 1), (239, .aload_n 0, 1), (240, .getfield 24, 3), (243, .iload 4, 2), (245, .iconst 4, 1), (246, .iadd, 1), (247, .aload_n 0, 1), (248, .getfield 206, 3), (251, .iastore, 1), (252, .aload_n 0, 1), (253, .bipush 13, 2), (255, .bipush 13, 2), (257, .invokevirtual 212, 3), (260, .ifCond .eq 13, 3), (263, .aload_n 0, 1), (264, .sipush 359, 3), (267, .invokevirtual 216, 3), (270, .ifCond .ne 5, 3), (273, .iconst 0, 1), (274, .ireturn, 1), (275, .aload_n 0, 1), (276, .getfield 24, 3), (279, .iload 4, 2), (281, .iconst 5, 1), (282, .iadd, 1), (283, .aload_n 0, 1), (284, .getfield 206, 3), (287, .iastore, 1), (288, .aload_n 0, 1), (289, .getfield 27, 3), (292, .bipush 6, 2), (294, .dup2, 1), (295, .iaload, 1), (296, .iconst 1, 1), (297, .iadd, 1), (298, .iastore, 1)] = true := by decide +kernel
theorem dX12_readLine_228 : decode cX12_readLine 228 = .ok (.sipush 359, 3) := dk_at bX12_readLine_228 0 rfl
theorem dX12_readLine_231 : decode cX12_readLine 231 = .ok (.invokevirtual 216, 3) := dk_at bX12_readLine_228 1 rfl
theorem dX12_readLine_234 : decode cX12_readLine 234 = .ok (.ifCond .ne 5, 3) := dk_at bX12_readLine_228 2 rfl
theorem dX12_readLine_237 : decode cX12_readLine 237 = .ok (.iconst 0, 1) := dk_at bX12_readLine_228 3 rfl
theorem dX12_readLine_238 : decode cX12_readLine 238 = .ok (.ireturn, 1) := dk_at bX12_readLine_228 4 rfl
theorem dX12_readLine_239 : decode cX12_readLine 239 = .ok (.aload_n 0, 1) := dk_at bX12_readLine_228 5 rfl
theorem dX12_readLine_240 : decode cX12_readLine 240 = .ok (.getfield 24, 3) := dk_at bX12_readLine_228 6 rfl
theorem dX12_readLine_243 : decode cX12_readLine 243 = .ok (.iload 4, 2) := dk_at bX12_readLine_228 7 rfl
theorem dX12_readLine_245 : decode cX12_readLine 245 = .ok (.iconst 4, 1) := dk_at bX12_readLine_228 8 rfl
theorem dX12_readLine_246 : decode cX12_readLine 246 = .ok (.iadd, 1) := dk_at bX12_readLine_228 9 rfl
theorem dX12_readLine_247 : decode cX12_readLine 247 = .ok (.aload_n 0, 1) := dk_at bX12_readLine_228 10 rfl
theorem dX12_readLine_248 : decode cX12_readLine 248 = .ok (.getfield 206, 3) := dk_at bX12_readLine_228 11 rfl
theorem dX12_readLine_251 : decode cX12_readLine 251 = .ok (.iastore, 1) := dk_at bX12_readLine_228 12 rfl
theorem dX12_readLine_252 : decode cX12_readLine 252 = .ok (.aload_n 0, 1) := dk_at bX12_readLine_228 13 rfl
theorem dX12_readLine_253 : decode cX12_readLine 253 = .ok (.bipush 13, 2) := dk_at bX12_readLine_228 14 rfl
theorem dX12_readLine_255 : decode cX12_readLine 255 = .ok (.bipush 13, 2) := dk_at bX12_readLine_228 15 rfl
theorem dX12_readLine_257 : decode cX12_readLine 257 = .ok (.invokevirtual 212, 3) := dk_at bX12_readLine_228 16 rfl
theorem dX12_readLine_260 : decode cX12_readLine 260 = .ok (.ifCond .eq 13, 3) := dk_at bX12_readLine_228 17 rfl
theorem dX12_readLine_263 : decode cX12_readLine 263 = .ok (.aload_n 0, 1) := dk_at bX12_readLine_228 18 rfl
theorem dX12_readLine_264 : decode cX12_readLine 264 = .ok (.sipush 359, 3) := dk_at bX12_readLine_228 19 rfl
theorem dX12_readLine_267 : decode cX12_readLine 267 = .ok (.invokevirtual 216, 3) := dk_at bX12_readLine_228 20 rfl
theorem dX12_readLine_270 : decode cX12_readLine 270 = .ok (.ifCond .ne 5, 3) := dk_at bX12_readLine_228 21 rfl
theorem dX12_readLine_273 : decode cX12_readLine 273 = .ok (.iconst 0, 1) := dk_at bX12_readLine_228 22 rfl
theorem dX12_readLine_274 : decode cX12_readLine 274 = .ok (.ireturn, 1) := dk_at bX12_readLine_228 23 rfl
theorem dX12_readLine_275 : decode cX12_readLine 275 = .ok (.aload_n 0, 1) := dk_at bX12_readLine_228 24 rfl
theorem dX12_readLine_276 : decode cX12_readLine 276 = .ok (.getfield 24, 3) := dk_at bX12_readLine_228 25 rfl
theorem dX12_readLine_279 : decode cX12_readLine 279 = .ok (.iload 4, 2) := dk_at bX12_readLine_228 26 rfl
theorem dX12_readLine_281 : decode cX12_readLine 281 = .ok (.iconst 5, 1) := dk_at bX12_readLine_228 27 rfl
theorem dX12_readLine_282 : decode cX12_readLine 282 = .ok (.iadd, 1) := dk_at bX12_readLine_228 28 rfl
theorem dX12_readLine_283 : decode cX12_readLine 283 = .ok (.aload_n 0, 1) := dk_at bX12_readLine_228 29 rfl
theorem dX12_readLine_284 : decode cX12_readLine 284 = .ok (.getfield 206, 3) := dk_at bX12_readLine_228 30 rfl
theorem dX12_readLine_287 : decode cX12_readLine 287 = .ok (.iastore, 1) := dk_at bX12_readLine_228 31 rfl
theorem dX12_readLine_288 : decode cX12_readLine 288 = .ok (.aload_n 0, 1) := dk_at bX12_readLine_228 32 rfl
theorem dX12_readLine_289 : decode cX12_readLine 289 = .ok (.getfield 27, 3) := dk_at bX12_readLine_228 33 rfl
theorem dX12_readLine_292 : decode cX12_readLine 292 = .ok (.bipush 6, 2) := dk_at bX12_readLine_228 34 rfl
theorem dX12_readLine_294 : decode cX12_readLine 294 = .ok (.dup2, 1) := dk_at bX12_readLine_228 35 rfl
theorem dX12_readLine_295 : decode cX12_readLine 295 = .ok (.iaload, 1) := dk_at bX12_readLine_228 36 rfl
theorem dX12_readLine_296 : decode cX12_readLine 296 = .ok (.iconst 1, 1) := dk_at bX12_readLine_228 37 rfl
theorem dX12_readLine_297 : decode cX12_readLine 297 = .ok (.iadd, 1) := dk_at bX12_readLine_228 38 rfl
theorem dX12_readLine_298 : decode cX12_readLine 298 = .ok (.iastore, 1) := dk_at bX12_readLine_228 39 rfl
theorem bX12_readLine_299 : dk cX12_readLine [(299, .aload_n 0, 1), (300, .getfield 180, 3), (303, .iconst 3, 1), (304, .if_icmp .eq 9, 3), (307, .aload_n 0, 1), (308, .iconst 1, 1), (309, .invokevirtual 203, 3), (312, .ireturn, 1), (313, .aload_n 0, 1), (314, .invokevirtual 209, 3), (317, .iconst 1, 1), (318, .ireturn, 1)] = true := by decide +kernel
theorem dX12_readLine_299 : decode cX12_readLine 299 = .ok (.aload_n 0, 1) := dk_at bX12_readLine_299 0 rfl
theorem dX12_readLine_300 : decode cX12_readLine 300 = .ok (.getfield 180, 3) := dk_at bX12_readLine_299 1 rfl
theorem dX12_readLine_303 : decode cX12_readLine 303 = .ok (.iconst 3, 1) := dk_at bX12_readLine_299 2 rfl
theorem dX12_readLine_304 : decode cX12_readLine 304 = .ok (.if_icmp .eq 9, 3) := dk_at bX12_readLine_299 3 rfl
theorem dX12_readLine_307 : decode cX12_readLine 307 = .ok (.aload_n 0, 1) := dk_at bX12_readLine_299 4 rfl
theorem dX12_readLine_308 : decode cX12_readLine 308 = .ok (.iconst 1, 1) := dk_at bX12_readLine_299 5 rfl
theorem dX12_readLine_309 : decode cX12_readLine 309 = .ok (.invokevirtual 203, 3) := dk_at bX12_readLine_299 6 rfl
theorem dX12_readLine_312 : decode cX12_readLine 312 = .ok (.ireturn, 1) := dk_at bX12_readLine_299 7 rfl
theorem dX12_readLine_313 : decode cX12_readLine 313 = .ok (.aload_n 0, 1) := dk_at bX12_readLine_299 8 rfl
theorem dX12_readLine_314 : decode cX12_readLine 314 = .ok (.invokevirtual 209, 3) := dk_at bX12_readLine_299 9 rfl
theorem dX12_readLine_317 : decode cX12_readLine 317 = .ok (.iconst 1, 1) := dk_at bX12_readLine_299 10 rfl
theorem dX12_readLine_318 : decode cX12_readLine 318 = .ok (.ireturn, 1) := dk_at bX12_readLine_299 11 rfl
set_option maxRecDepth 20000 in
theorem ggX12_insurer_X12_taking : GoodIn wsX12_insurer wsX12_taking := goodIn_r _ [13, 14, 15, 16, 110, 111, 112, 113, 114, 115, 116, 117, 118, 119, 120, 121, 122, 123, 124, 125, 126, 127, 128, 129, 130, 131, 132, 133, 134, 135, 136, 137, 138, 139, 140, 141, 142, 143, 144, 145, 146, 147, 148, 149, 150, 151, 152, 153, 154, 155, 156, 157, 158, 159, 160, 161, 162, 163, 164, 165, 166, 167, 168] rfl (by decide +kernel)
set_option maxRecDepth 20000 in
theorem gX12_insurer_X12_taking : GoodIn wsX12_insurer (wsV RX12 219 RX12 yX12_taking wsX12_taking) := goodIn_app (goodIn_r _ [9, 10, 11, 12] rfl (by decide +kernel)) ggX12_insurer_X12_taking
set_option maxRecDepth 20000 in
theorem ggX12_insurer_X12_isBoat : GoodIn wsX12_insurer wsX12_isBoat := goodIn_r _ [19, 20, 21, 12, 22] rfl (by decide +kernel)
set_option maxRecDepth 20000 in
theorem gX12_insurer_X12_isBoat : GoodIn wsX12_insurer (va_wsS RX12 222 yX12_isBoat wsX12_isBoat) := goodIn_app (goodIn_r _ [17, 18, 12] rfl (by decide +kernel)) ggX12_insurer_X12_isBoat
set_option maxRecDepth 20000 in
theorem ggX12_insurer_X12_scan : GoodIn wsX12_insurer wsX12_scan := goodIn_r _ [26, 16, 27, 6, 7, 28, 29, 30, 31, 12, 32, 15, 33, 34, 35, 36, 37, 38, 39, 40, 41, 42, 43, 44, 45, 46, 47, 48, 49, 50, 51, 52, 53, 54, 55, 56, 57, 58, 59, 60, 61, 62, 63, 64, 65, 66, 67, 68, 69, 70, 71, 72, 73, 74, 75, 76, 77, 78, 79, 80, 81, 82, 83, 84, 85, 86, 87, 88, 89, 90, 91, 92, 110, 111, 112, 113, 114, 115, 116, 117, 118, 119, 120, 121, 122, 123, 124, 125, 126, 127, 128, 129, 130, 131, 132, 133, 134, 135, 136, 137, 138, 139, 140, 141, 142, 143, 144, 145, 146, 147, 148, 149, 150, 151, 152, 153, 154, 155, 156, 157, 158, 159, 160, 161, 162, 163, 164, 165, 166, 167, 168] rfl (by decide +kernel)
set_option maxRecDepth 20000 in
theorem gX12_insurer_X12_scan : GoodIn wsX12_insurer (wsV RX12 209 RX12 yX12_scan wsX12_scan) := goodIn_app (goodIn_r _ [23, 24, 25, 12] rfl (by decide +kernel)) ggX12_insurer_X12_scan
set_option maxRecDepth 20000 in
theorem ggX12_insurer_X12_readLine : GoodIn wsX12_insurer wsX12_readLine := goodIn_r _ [96, 6, 7, 3, 4, 97, 5, 8, 98, 99, 100, 12, 101, 1, 27, 2, 23, 24, 25, 26, 16, 28, 29, 30, 31, 32, 15, 33, 34, 35, 36, 37, 38, 39, 40, 41, 42, 43, 44, 45, 46, 47, 48, 49, 50, 51, 52, 53, 54, 55, 56, 57, 58, 59, 60, 61, 62, 63, 64, 65, 66, 67, 68, 69, 70, 71, 72, 73, 74, 75, 76, 77, 78, 79, 80, 81, 82, 83, 84, 85, 86, 87, 88, 89, 90, 91, 92, 102, 103, 104, 105, 106, 107, 108, 109, 20, 21, 22, 110, 111, 112, 113, 114, 115, 116, 117, 118, 119, 120, 121, 122, 123, 124, 125, 126, 127, 128, 129, 130, 131, 132, 133, 134, 135, 136, 137, 138, 139, 140, 141, 142, 143, 144, 145, 146, 147, 148, 149, 150, 151, 152, 153, 154, 155, 156, 157, 158, 159, 160, 161, 162, 163, 164, 165, 166, 167, 168] rfl (by decide +kernel)
set_option maxRecDepth 20000 in
theorem gX12_insurer_X12_readLine : GoodIn wsX12_insurer (wsV RX12 229 RX12 yX12_readLine wsX12_readLine) := goodIn_app (goodIn_r _ [93, 94, 95, 12] rfl (by decide +kernel)) ggX12_insurer_X12_readLine
theorem bX12_insurer_0 : dk cX12_insurer [(0, .aload_n 0, 1), (1, .invokevirtual 219, 3), (4, .iload_n 1, 1), (5, .invokestatic 222, 3), (8, .ifCond .ne 6, 3), (11, .bipush (-2), 2), (13, .ireturn, 1), (14, .aload_n 0, 1), (15, .iconst 0, 1), (16, .putfield 200, 3), (19, .aload_n 0, 1), (20, .iconst (-1), 1), (21, .putfield 13, 3), (24, .aload_n 0, 1), (25, .getfield 27, 3), (28, .bipush 6, 2), (30, .iconst 0, 1), (31, .iastore, 1), (32, .aload_n 0, 1), (33, .getfield 30, 3), (36, .bipush 6, 2), (38, .iconst 0, 1), (39, .iastore, 1), (40, .aload_n 0, 1), (41, .getfield 33, 3), (44, .bipush 6, 2), (46, .bipush 9, 2), (48, .iastore, 1), (49, .iconst 0, 1), (50, .istore_n 2, 1), (51, .iconst 0, 1), (52, .istore_n 3, 1), (53, .iconst 0, 1), (54, .istore 4, 2), (56, .aload_n 0, 1), (57, .invokevirtual 209, 3), (60, .aload_n 0, 1), (61, .getfield 180, 3), (64, .iconst 4, 1), (65, .if_icmp .eq 97, 3)] = true := by decide +kernel
theorem dX12_insurer_0 : decode cX12_insurer 0 = .ok (.aload_n 0, 1) := dk_at bX12_insurer_0 0 rfl
theorem dX12_insurer_1 : decode cX12_insurer 1 = .ok (.invokevirtual 219, 3) := dk_at bX12_insurer_0 1 rfl
theorem dX12_insurer_4 : decode cX12_insurer 4 = .ok (.iload_n 1, 1) := dk_at bX12_insurer_0 2 rfl
theorem dX12_insurer_5 : decode cX12_insurer 5 = .ok (.invokestatic 222, 3) := dk_at bX12_insurer_0 3 rfl
theorem dX12_insurer_8 : decode cX12_insurer 8 = .ok (.ifCond .ne 6, 3) := dk_at bX12_insurer_0 4 rfl
theorem dX12_insurer_11 : decode cX12_insurer 11 = .ok (.bipush (-2), 2) := dk_at bX12_insurer_0 5 rfl
theorem dX12_insurer_13 : decode cX12_insurer 13 = .ok (.ireturn, 1) := dk_at bX12_insurer_0 6 rfl
theorem dX12_insurer_14 : decode cX12_insurer 14 = .ok (.aload_n 0, 1) := dk_at bX12_insurer_0 7 rfl
theorem dX12_insurer_15 : decode cX12_insurer 15 = .ok (.iconst 0, 1) := dk_at bX12_insurer_0 8 rfl
theorem dX12_insurer_16 : decode cX12_insurer 16 = .ok (.putfield 200, 3) := dk_at bX12_insurer_0 9 rfl
theorem dX12_insurer_19 : decode cX12_insurer 19 = .ok (.aload_n 0, 1) := dk_at bX12_insurer_0 10 rfl
theorem dX12_insurer_20 : decode cX12_insurer 20 = .ok (.iconst (-1), 1) := dk_at bX12_insurer_0 11 rfl
theorem dX12_insurer_21 : decode cX12_insurer 21 = .ok (.putfield 13, 3) := dk_at bX12_insurer_0 12 rfl
theorem dX12_insurer_24 : decode cX12_insurer 24 = .ok (.aload_n 0, 1) := dk_at bX12_insurer_0 13 rfl
theorem dX12_insurer_25 : decode cX12_insurer 25 = .ok (.getfield 27, 3) := dk_at bX12_insurer_0 14 rfl
theorem dX12_insurer_28 : decode cX12_insurer 28 = .ok (.bipush 6, 2) := dk_at bX12_insurer_0 15 rfl
theorem dX12_insurer_30 : decode cX12_insurer 30 = .ok (.iconst 0, 1) := dk_at bX12_insurer_0 16 rfl
theorem dX12_insurer_31 : decode cX12_insurer 31 = .ok (.iastore, 1) := dk_at bX12_insurer_0 17 rfl
theorem dX12_insurer_32 : decode cX12_insurer 32 = .ok (.aload_n 0, 1) := dk_at bX12_insurer_0 18 rfl
theorem dX12_insurer_33 : decode cX12_insurer 33 = .ok (.getfield 30, 3) := dk_at bX12_insurer_0 19 rfl
theorem dX12_insurer_36 : decode cX12_insurer 36 = .ok (.bipush 6, 2) := dk_at bX12_insurer_0 20 rfl
theorem dX12_insurer_38 : decode cX12_insurer 38 = .ok (.iconst 0, 1) := dk_at bX12_insurer_0 21 rfl
theorem dX12_insurer_39 : decode cX12_insurer 39 = .ok (.iastore, 1) := dk_at bX12_insurer_0 22 rfl
theorem dX12_insurer_40 : decode cX12_insurer 40 = .ok (.aload_n 0, 1) := dk_at bX12_insurer_0 23 rfl
theorem dX12_insurer_41 : decode cX12_insurer 41 = .ok (.getfield 33, 3) := dk_at bX12_insurer_0 24 rfl
theorem dX12_insurer_44 : decode cX12_insurer 44 = .ok (.bipush 6, 2) := dk_at bX12_insurer_0 25 rfl
theorem dX12_insurer_46 : decode cX12_insurer 46 = .ok (.bipush 9, 2) := dk_at bX12_insurer_0 26 rfl
theorem dX12_insurer_48 : decode cX12_insurer 48 = .ok (.iastore, 1) := dk_at bX12_insurer_0 27 rfl
theorem dX12_insurer_49 : decode cX12_insurer 49 = .ok (.iconst 0, 1) := dk_at bX12_insurer_0 28 rfl
theorem dX12_insurer_50 : decode cX12_insurer 50 = .ok (.istore_n 2, 1) := dk_at bX12_insurer_0 29 rfl
theorem dX12_insurer_51 : decode cX12_insurer 51 = .ok (.iconst 0, 1) := dk_at bX12_insurer_0 30 rfl
theorem dX12_insurer_52 : decode cX12_insurer 52 = .ok (.istore_n 3, 1) := dk_at bX12_insurer_0 31 rfl
theorem dX12_insurer_53 : decode cX12_insurer 53 = .ok (.iconst 0, 1) := dk_at bX12_insurer_0 32 rfl
theorem dX12_insurer_54 : decode cX12_insurer 54 = .ok (.istore 4, 2) := dk_at bX12_insurer_0 33 rfl
theorem dX12_insurer_56 : decode cX12_insurer 56 = .ok (.aload_n 0, 1) := dk_at bX12_insurer_0 34 rfl
theorem dX12_insurer_57 : decode cX12_insurer 57 = .ok (.invokevirtual 209, 3) := dk_at bX12_insurer_0 35 rfl
theorem dX12_insurer_60 : decode cX12_insurer 60 = .ok (.aload_n 0, 1) := dk_at bX12_insurer_0 36 rfl
theorem dX12_insurer_61 : decode cX12_insurer 61 = .ok (.getfield 180, 3) := dk_at bX12_insurer_0 37 rfl
theorem dX12_insurer_64 : decode cX12_insurer 64 = .ok (.iconst 4, 1) := dk_at bX12_insurer_0 38 rfl
theorem dX12_insurer_65 : decode cX12_insurer 65 = .ok (.if_icmp .eq 97, 3) := dk_at bX12_insurer_0 39 rfl
theorem bX12_insurer_68 : dk cX12_insurer [(68, .aload_n 0, 1), (69, .getfield 180, 3), (72, .iconst 1, 1), (73, .if_icmp .ne 16, 3), (76, .aload_n 0, 1), (77, .getfield 191, 3), (80, .bipush 14, 2), (82, .if_icmp .ne 7, 3), (85, .iconst 1, 1), (86, .goto 4, 3), (89, .iconst 0, 1), (90, .istore 5, 2), (92, .aload_n 0, 1), (93, .getfield 180, 3), (96, .iconst 1, 1), (97, .if_icmp .ne 15, 3), (100, .aload_n 0, 1), (101, .getfield 191, 3), (104, .iconst 1, 1), (105, .if_icmp .ne 7, 3), (108, .iconst 1, 1), (109, .goto 4, 3), (112, .iconst 0, 1), (113, .istore 6, 2), (115, .aload_n 0, 1), (116, .iload_n 2, 1), (117, .iload_n 3, 1), (118, .invokevirtual 229, 3), (121, .ifCond .ne 5, 3), (124, .iconst (-1), 1), (125, .ireturn, 1), (126, .iload_n 2, 1), (127, .ifCond .ne 8, 3), (130, .iload 5, 2), (132, .ifCond .eq 7, 3), (135, .iconst 1, 1), (136, .goto 4, 3), (139, .iconst 0, 1), (140, .istore_n 2, 1), (141, .iload_n 3, 1)] = true := by decide +kernel
theorem dX12_insurer_68 : decode cX12_insurer 68 = .ok (.aload_n 0, 1) := dk_at bX12_insurer_68 0 rfl
theorem dX12_insurer_69 : decode cX12_insurer 69 = .ok (.getfield 180, 3) := dk_at bX12_insurer_68 1 rfl
theorem dX12_insurer_72 : decode cX12_insurer 72 = .ok (.iconst 1, 1) := dk_at bX12_insurer_68 2 rfl
theorem dX12_insurer_73 : decode cX12_insurer 73 = .ok (.if_icmp .ne 16, 3) := dk_at bX12_insurer_68 3 rfl
theorem dX12_insurer_76 : decode cX12_insurer 76 = .ok (.aload_n 0, 1) := dk_at bX12_insurer_68 4 rfl
theorem dX12_insurer_77 : decode cX12_insurer 77 = .ok (.getfield 191, 3) := dk_at bX12_insurer_68 5 rfl
theorem dX12_insurer_80 : decode cX12_insurer 80 = .ok (.bipush 14, 2) := dk_at bX12_insurer_68 6 rfl
theorem dX12_insurer_82 : decode cX12_insurer 82 = .ok (.if_icmp .ne 7, 3) := dk_at bX12_insurer_68 7 rfl
theorem dX12_insurer_85 : decode cX12_insurer 85 = .ok (.iconst 1, 1) := dk_at bX12_insurer_68 8 rfl
theorem dX12_insurer_86 : decode cX12_insurer 86 = .ok (.goto 4, 3) := dk_at bX12_insurer_68 9 rfl
theorem dX12_insurer_89 : decode cX12_insurer 89 = .ok (.iconst 0, 1) := dk_at bX12_insurer_68 10 rfl
theorem dX12_insurer_90 : decode cX12_insurer 90 = .ok (.istore 5, 2) := dk_at bX12_insurer_68 11 rfl
theorem dX12_insurer_92 : decode cX12_insurer 92 = .ok (.aload_n 0, 1) := dk_at bX12_insurer_68 12 rfl
theorem dX12_insurer_93 : decode cX12_insurer 93 = .ok (.getfield 180, 3) := dk_at bX12_insurer_68 13 rfl
theorem dX12_insurer_96 : decode cX12_insurer 96 = .ok (.iconst 1, 1) := dk_at bX12_insurer_68 14 rfl
theorem dX12_insurer_97 : decode cX12_insurer 97 = .ok (.if_icmp .ne 15, 3) := dk_at bX12_insurer_68 15 rfl
theorem dX12_insurer_100 : decode cX12_insurer 100 = .ok (.aload_n 0, 1) := dk_at bX12_insurer_68 16 rfl
theorem dX12_insurer_101 : decode cX12_insurer 101 = .ok (.getfield 191, 3) := dk_at bX12_insurer_68 17 rfl
theorem dX12_insurer_104 : decode cX12_insurer 104 = .ok (.iconst 1, 1) := dk_at bX12_insurer_68 18 rfl
theorem dX12_insurer_105 : decode cX12_insurer 105 = .ok (.if_icmp .ne 7, 3) := dk_at bX12_insurer_68 19 rfl
theorem dX12_insurer_108 : decode cX12_insurer 108 = .ok (.iconst 1, 1) := dk_at bX12_insurer_68 20 rfl
theorem dX12_insurer_109 : decode cX12_insurer 109 = .ok (.goto 4, 3) := dk_at bX12_insurer_68 21 rfl
theorem dX12_insurer_112 : decode cX12_insurer 112 = .ok (.iconst 0, 1) := dk_at bX12_insurer_68 22 rfl
theorem dX12_insurer_113 : decode cX12_insurer 113 = .ok (.istore 6, 2) := dk_at bX12_insurer_68 23 rfl
theorem dX12_insurer_115 : decode cX12_insurer 115 = .ok (.aload_n 0, 1) := dk_at bX12_insurer_68 24 rfl
theorem dX12_insurer_116 : decode cX12_insurer 116 = .ok (.iload_n 2, 1) := dk_at bX12_insurer_68 25 rfl
theorem dX12_insurer_117 : decode cX12_insurer 117 = .ok (.iload_n 3, 1) := dk_at bX12_insurer_68 26 rfl
theorem dX12_insurer_118 : decode cX12_insurer 118 = .ok (.invokevirtual 229, 3) := dk_at bX12_insurer_68 27 rfl
theorem dX12_insurer_121 : decode cX12_insurer 121 = .ok (.ifCond .ne 5, 3) := dk_at bX12_insurer_68 28 rfl
theorem dX12_insurer_124 : decode cX12_insurer 124 = .ok (.iconst (-1), 1) := dk_at bX12_insurer_68 29 rfl
theorem dX12_insurer_125 : decode cX12_insurer 125 = .ok (.ireturn, 1) := dk_at bX12_insurer_68 30 rfl
theorem dX12_insurer_126 : decode cX12_insurer 126 = .ok (.iload_n 2, 1) := dk_at bX12_insurer_68 31 rfl
theorem dX12_insurer_127 : decode cX12_insurer 127 = .ok (.ifCond .ne 8, 3) := dk_at bX12_insurer_68 32 rfl
theorem dX12_insurer_130 : decode cX12_insurer 130 = .ok (.iload 5, 2) := dk_at bX12_insurer_68 33 rfl
theorem dX12_insurer_132 : decode cX12_insurer 132 = .ok (.ifCond .eq 7, 3) := dk_at bX12_insurer_68 34 rfl
theorem dX12_insurer_135 : decode cX12_insurer 135 = .ok (.iconst 1, 1) := dk_at bX12_insurer_68 35 rfl
theorem dX12_insurer_136 : decode cX12_insurer 136 = .ok (.goto 4, 3) := dk_at bX12_insurer_68 36 rfl
theorem dX12_insurer_139 : decode cX12_insurer 139 = .ok (.iconst 0, 1) := dk_at bX12_insurer_68 37 rfl
theorem dX12_insurer_140 : decode cX12_insurer 140 = .ok (.istore_n 2, 1) := dk_at bX12_insurer_68 38 rfl
theorem dX12_insurer_141 : decode cX12_insurer 141 = .ok (.iload_n 3, 1) := dk_at bX12_insurer_68 39 rfl
theorem bX12_insurer_142 : dk cX12_insurer [(142, .ifCond .ne 8, 3), (145, .iload 6, 2), (147, .ifCond .eq 7, 3), (150, .iconst 1, 1), (151, .goto 4, 3), (154, .iconst 0, 1), (155, .istore_n 3, 1), (156, .iinc 4 1, 3), (159, .goto (-99), 3), (162, .aload_n 0, 1), (163, .getfield 27, 3), (166, .iload_n 1, 1), (167, .aload_n 0, 1), (168, .getfield 27, 3), (171, .bipush 6, 2), (173, .iaload, 1), (174, .iastore, 1), (175, .aload_n 0, 1), (176, .getfield 30, 3), (179, .iload_n 1, 1), (180, .aload_n 0, 1), (181, .getfield 30, 3), (184, .bipush 6, 2), (186, .iaload, 1), (187, .iastore, 1), (188, .aload_n 0, 1), (189, .getfield 33, 3), (192, .iload_n 1, 1), (193, .aload_n 0, 1), (194, .getfield 33, 3), (197, .bipush 6, 2), (199, .iaload, 1), (200, .iastore, 1), (201, .iconst 0, 1), (202, .istore 5, 2), (204, .iload 5, 2), (206, .bipush 72, 2), (208, .if_icmp .ge 32, 3), (211, .aload_n 0, 1), (212, .getfield 24, 3)] = true := by decide +kernel
theorem dX12_insurer_142 : decode cX12_insurer 142 = .ok (.ifCond .ne 8, 3) := dk_at bX12_insurer_142 0 rfl
theorem dX12_insurer_145 : decode cX12_insurer 145 = .ok (.iload 6, 2) := dk_at bX12_insurer_142 1 rfl
theorem dX12_insurer_147 : decode cX12_insurer 147 = .ok (.ifCond .eq 7, 3) := dk_at bX12_insurer_142 2 rfl
theorem dX12_insurer_150 : decode cX12_insurer 150 = .ok (.iconst 1, 1) := dk_at bX12_insurer_142 3 rfl
theorem dX12_insurer_151 : decode cX12_insurer 151 = .ok (.goto 4, 3) := dk_at bX12_insurer_142 4 rfl
theorem dX12_insurer_154 : decode cX12_insurer 154 = .ok (.iconst 0, 1) := dk_at bX12_insurer_142 5 rfl
theorem dX12_insurer_155 : decode cX12_insurer 155 = .ok (.istore_n 3, 1) := dk_at bX12_insurer_142 6 rfl
theorem dX12_insurer_156 : decode cX12_insurer 156 = .ok (.iinc 4 1, 3) := dk_at bX12_insurer_142 7 rfl
theorem dX12_insurer_159 : decode cX12_insurer 159 = .ok (.goto (-99), 3) := dk_at bX12_insurer_142 8 rfl
theorem dX12_insurer_162 : decode cX12_insurer 162 = .ok (.aload_n 0, 1) := dk_at bX12_insurer_142 9 rfl
theorem dX12_insurer_163 : decode cX12_insurer 163 = .ok (.getfield 27, 3) := dk_at bX12_insurer_142 10 rfl
theorem dX12_insurer_166 : decode cX12_insurer 166 = .ok (.iload_n 1, 1) := dk_at bX12_insurer_142 11 rfl
theorem dX12_insurer_167 : decode cX12_insurer 167 = .ok (.aload_n 0, 1) := dk_at bX12_insurer_142 12 rfl
theorem dX12_insurer_168 : decode cX12_insurer 168 = .ok (.getfield 27, 3) := dk_at bX12_insurer_142 13 rfl
theorem dX12_insurer_171 : decode cX12_insurer 171 = .ok (.bipush 6, 2) := dk_at bX12_insurer_142 14 rfl
theorem dX12_insurer_173 : decode cX12_insurer 173 = .ok (.iaload, 1) := dk_at bX12_insurer_142 15 rfl
theorem dX12_insurer_174 : decode cX12_insurer 174 = .ok (.iastore, 1) := dk_at bX12_insurer_142 16 rfl
theorem dX12_insurer_175 : decode cX12_insurer 175 = .ok (.aload_n 0, 1) := dk_at bX12_insurer_142 17 rfl
theorem dX12_insurer_176 : decode cX12_insurer 176 = .ok (.getfield 30, 3) := dk_at bX12_insurer_142 18 rfl
theorem dX12_insurer_179 : decode cX12_insurer 179 = .ok (.iload_n 1, 1) := dk_at bX12_insurer_142 19 rfl
theorem dX12_insurer_180 : decode cX12_insurer 180 = .ok (.aload_n 0, 1) := dk_at bX12_insurer_142 20 rfl
theorem dX12_insurer_181 : decode cX12_insurer 181 = .ok (.getfield 30, 3) := dk_at bX12_insurer_142 21 rfl
theorem dX12_insurer_184 : decode cX12_insurer 184 = .ok (.bipush 6, 2) := dk_at bX12_insurer_142 22 rfl
theorem dX12_insurer_186 : decode cX12_insurer 186 = .ok (.iaload, 1) := dk_at bX12_insurer_142 23 rfl
theorem dX12_insurer_187 : decode cX12_insurer 187 = .ok (.iastore, 1) := dk_at bX12_insurer_142 24 rfl
theorem dX12_insurer_188 : decode cX12_insurer 188 = .ok (.aload_n 0, 1) := dk_at bX12_insurer_142 25 rfl
theorem dX12_insurer_189 : decode cX12_insurer 189 = .ok (.getfield 33, 3) := dk_at bX12_insurer_142 26 rfl
theorem dX12_insurer_192 : decode cX12_insurer 192 = .ok (.iload_n 1, 1) := dk_at bX12_insurer_142 27 rfl
theorem dX12_insurer_193 : decode cX12_insurer 193 = .ok (.aload_n 0, 1) := dk_at bX12_insurer_142 28 rfl
theorem dX12_insurer_194 : decode cX12_insurer 194 = .ok (.getfield 33, 3) := dk_at bX12_insurer_142 29 rfl
theorem dX12_insurer_197 : decode cX12_insurer 197 = .ok (.bipush 6, 2) := dk_at bX12_insurer_142 30 rfl
theorem dX12_insurer_199 : decode cX12_insurer 199 = .ok (.iaload, 1) := dk_at bX12_insurer_142 31 rfl
theorem dX12_insurer_200 : decode cX12_insurer 200 = .ok (.iastore, 1) := dk_at bX12_insurer_142 32 rfl
theorem dX12_insurer_201 : decode cX12_insurer 201 = .ok (.iconst 0, 1) := dk_at bX12_insurer_142 33 rfl
theorem dX12_insurer_202 : decode cX12_insurer 202 = .ok (.istore 5, 2) := dk_at bX12_insurer_142 34 rfl
theorem dX12_insurer_204 : decode cX12_insurer 204 = .ok (.iload 5, 2) := dk_at bX12_insurer_142 35 rfl
theorem dX12_insurer_206 : decode cX12_insurer 206 = .ok (.bipush 72, 2) := dk_at bX12_insurer_142 36 rfl
theorem dX12_insurer_208 : decode cX12_insurer 208 = .ok (.if_icmp .ge 32, 3) := dk_at bX12_insurer_142 37 rfl
theorem dX12_insurer_211 : decode cX12_insurer 211 = .ok (.aload_n 0, 1) := dk_at bX12_insurer_142 38 rfl
theorem dX12_insurer_212 : decode cX12_insurer 212 = .ok (.getfield 24, 3) := dk_at bX12_insurer_142 39 rfl
theorem bX12_insurer_215 : dk cX12_insurer [(215, .bipush 72, 2), (217, .iload_n 1, 1), (218, .imul, 1), (219, .iload 5, 2), (221, .iadd, 1), (222, .aload_n 0, 1), (223, .getfield 24, 3), (226, .sipush 432, 3), (229, .iload 5, 2), (231, .iadd, 1), (232, .iaload, 1), (233, .iastore, 1), (234, .iinc 5 1, 3), (237, .goto (-33), 3), (240, .iload 4, 2), (242, .ireturn, 1)] = true := by decide +kernel
theorem dX12_insurer_215 : decode cX12_insurer 215 = .ok (.bipush 72, 2) := dk_at bX12_insurer_215 0 rfl
theorem dX12_insurer_217 : decode cX12_insurer 217 = .ok (.iload_n 1, 1) := dk_at bX12_insurer_215 1 rfl
theorem dX12_insurer_218 : decode cX12_insurer 218 = .ok (.imul, 1) := dk_at bX12_insurer_215 2 rfl
theorem dX12_insurer_219 : decode cX12_insurer 219 = .ok (.iload 5, 2) := dk_at bX12_insurer_215 3 rfl
theorem dX12_insurer_221 : decode cX12_insurer 221 = .ok (.iadd, 1) := dk_at bX12_insurer_215 4 rfl
theorem dX12_insurer_222 : decode cX12_insurer 222 = .ok (.aload_n 0, 1) := dk_at bX12_insurer_215 5 rfl
theorem dX12_insurer_223 : decode cX12_insurer 223 = .ok (.getfield 24, 3) := dk_at bX12_insurer_215 6 rfl
theorem dX12_insurer_226 : decode cX12_insurer 226 = .ok (.sipush 432, 3) := dk_at bX12_insurer_215 7 rfl
theorem dX12_insurer_229 : decode cX12_insurer 229 = .ok (.iload 5, 2) := dk_at bX12_insurer_215 8 rfl
theorem dX12_insurer_231 : decode cX12_insurer 231 = .ok (.iadd, 1) := dk_at bX12_insurer_215 9 rfl
theorem dX12_insurer_232 : decode cX12_insurer 232 = .ok (.iaload, 1) := dk_at bX12_insurer_215 10 rfl
theorem dX12_insurer_233 : decode cX12_insurer 233 = .ok (.iastore, 1) := dk_at bX12_insurer_215 11 rfl
theorem dX12_insurer_234 : decode cX12_insurer 234 = .ok (.iinc 5 1, 3) := dk_at bX12_insurer_215 12 rfl
theorem dX12_insurer_237 : decode cX12_insurer 237 = .ok (.goto (-33), 3) := dk_at bX12_insurer_215 13 rfl
theorem dX12_insurer_240 : decode cX12_insurer 240 = .ok (.iload 4, 2) := dk_at bX12_insurer_215 14 rfl
theorem dX12_insurer_242 : decode cX12_insurer 242 = .ok (.ireturn, 1) := dk_at bX12_insurer_215 15 rfl
theorem bX12_fault_0 : dk cX12_fault [(0, .iload_n 1, 1), (1, .ifCond .ne 10, 3), (4, .aload_n 0, 1), (5, .getfield 200, 3), (8, .goto 16, 3), (11, .iload_n 1, 1), (12, .iconst 1, 1), (13, .if_icmp .ne 10, 3), (16, .aload_n 0, 1), (17, .getfield 13, 3), (20, .goto 4, 3), (23, .iconst (-1), 1), (24, .ireturn, 1)] = true := by decide +kernel
theorem dX12_fault_0 : decode cX12_fault 0 = .ok (.iload_n 1, 1) := dk_at bX12_fault_0 0 rfl
theorem dX12_fault_1 : decode cX12_fault 1 = .ok (.ifCond .ne 10, 3) := dk_at bX12_fault_0 1 rfl
theorem dX12_fault_4 : decode cX12_fault 4 = .ok (.aload_n 0, 1) := dk_at bX12_fault_0 2 rfl
theorem dX12_fault_5 : decode cX12_fault 5 = .ok (.getfield 200, 3) := dk_at bX12_fault_0 3 rfl
theorem dX12_fault_8 : decode cX12_fault 8 = .ok (.goto 16, 3) := dk_at bX12_fault_0 4 rfl
theorem dX12_fault_11 : decode cX12_fault 11 = .ok (.iload_n 1, 1) := dk_at bX12_fault_0 5 rfl
theorem dX12_fault_12 : decode cX12_fault 12 = .ok (.iconst 1, 1) := dk_at bX12_fault_0 6 rfl
theorem dX12_fault_13 : decode cX12_fault 13 = .ok (.if_icmp .ne 10, 3) := dk_at bX12_fault_0 7 rfl
theorem dX12_fault_16 : decode cX12_fault 16 = .ok (.aload_n 0, 1) := dk_at bX12_fault_0 8 rfl
theorem dX12_fault_17 : decode cX12_fault 17 = .ok (.getfield 13, 3) := dk_at bX12_fault_0 9 rfl
theorem dX12_fault_20 : decode cX12_fault 20 = .ok (.goto 4, 3) := dk_at bX12_fault_0 10 rfl
theorem dX12_fault_23 : decode cX12_fault 23 = .ok (.iconst (-1), 1) := dk_at bX12_fault_0 11 rfl
theorem dX12_fault_24 : decode cX12_fault 24 = .ok (.ireturn, 1) := dk_at bX12_fault_0 12 rfl
set_option maxRecDepth 20000 in
theorem ggX12_wind_X12_in : GoodIn wsX12_wind wsX12_in := goodIn_r _ [6] rfl (by decide +kernel)
set_option maxRecDepth 20000 in
theorem gX12_wind_X12_in : GoodIn wsX12_wind (va_wsS RX12 148 yX12_in wsX12_in) := goodIn_app (goodIn_r _ [3, 4, 5] rfl (by decide +kernel)) ggX12_wind_X12_in
theorem bX12_wind_0 : dk cX12_wind [(0, .iload_n 1, 1), (1, .iconst 0, 1), (2, .bipush 23, 2), (4, .invokestatic 148, 3), (7, .ifCond .eq 34, 3), (10, .iload_n 2, 1), (11, .iconst 0, 1), (12, .bipush 11, 2), (14, .invokestatic 148, 3), (17, .ifCond .eq 24, 3), (20, .iload_n 3, 1), (21, .iconst 0, 1), (22, .bipush 7, 2), (24, .invokestatic 148, 3), (27, .ifCond .eq 14, 3), (30, .iload 4, 2), (32, .iconst 0, 1), (33, .bipush 9, 2), (35, .invokestatic 148, 3), (38, .ifCond .ne 6, 3), (41, .bipush (-2), 2), (43, .ireturn, 1), (44, .bipush 12, 2), (46, .iload_n 1, 1), (47, .imul, 1), (48, .iload_n 2, 1), (49, .iadd, 1), (50, .istore 5, 2), (52, .bipush 10, 2), (54, .aload_n 0, 1), (55, .getfield 36, 3), (58, .iload 5, 2), (60, .iaload, 1), (61, .imul, 1), (62, .aload_n 0, 1), (63, .getfield 39, 3), (66, .iload 5, 2), (68, .iaload, 1), (69, .iadd, 1), (70, .istore 6, 2)] = true := by decide +kernel
theorem dX12_wind_0 : decode cX12_wind 0 = .ok (.iload_n 1, 1) := dk_at bX12_wind_0 0 rfl
theorem dX12_wind_1 : decode cX12_wind 1 = .ok (.iconst 0, 1) := dk_at bX12_wind_0 1 rfl
theorem dX12_wind_2 : decode cX12_wind 2 = .ok (.bipush 23, 2) := dk_at bX12_wind_0 2 rfl
theorem dX12_wind_4 : decode cX12_wind 4 = .ok (.invokestatic 148, 3) := dk_at bX12_wind_0 3 rfl
theorem dX12_wind_7 : decode cX12_wind 7 = .ok (.ifCond .eq 34, 3) := dk_at bX12_wind_0 4 rfl
theorem dX12_wind_10 : decode cX12_wind 10 = .ok (.iload_n 2, 1) := dk_at bX12_wind_0 5 rfl
theorem dX12_wind_11 : decode cX12_wind 11 = .ok (.iconst 0, 1) := dk_at bX12_wind_0 6 rfl
theorem dX12_wind_12 : decode cX12_wind 12 = .ok (.bipush 11, 2) := dk_at bX12_wind_0 7 rfl
theorem dX12_wind_14 : decode cX12_wind 14 = .ok (.invokestatic 148, 3) := dk_at bX12_wind_0 8 rfl
theorem dX12_wind_17 : decode cX12_wind 17 = .ok (.ifCond .eq 24, 3) := dk_at bX12_wind_0 9 rfl
theorem dX12_wind_20 : decode cX12_wind 20 = .ok (.iload_n 3, 1) := dk_at bX12_wind_0 10 rfl
theorem dX12_wind_21 : decode cX12_wind 21 = .ok (.iconst 0, 1) := dk_at bX12_wind_0 11 rfl
theorem dX12_wind_22 : decode cX12_wind 22 = .ok (.bipush 7, 2) := dk_at bX12_wind_0 12 rfl
theorem dX12_wind_24 : decode cX12_wind 24 = .ok (.invokestatic 148, 3) := dk_at bX12_wind_0 13 rfl
theorem dX12_wind_27 : decode cX12_wind 27 = .ok (.ifCond .eq 14, 3) := dk_at bX12_wind_0 14 rfl
theorem dX12_wind_30 : decode cX12_wind 30 = .ok (.iload 4, 2) := dk_at bX12_wind_0 15 rfl
theorem dX12_wind_32 : decode cX12_wind 32 = .ok (.iconst 0, 1) := dk_at bX12_wind_0 16 rfl
theorem dX12_wind_33 : decode cX12_wind 33 = .ok (.bipush 9, 2) := dk_at bX12_wind_0 17 rfl
theorem dX12_wind_35 : decode cX12_wind 35 = .ok (.invokestatic 148, 3) := dk_at bX12_wind_0 18 rfl
theorem dX12_wind_38 : decode cX12_wind 38 = .ok (.ifCond .ne 6, 3) := dk_at bX12_wind_0 19 rfl
theorem dX12_wind_41 : decode cX12_wind 41 = .ok (.bipush (-2), 2) := dk_at bX12_wind_0 20 rfl
theorem dX12_wind_43 : decode cX12_wind 43 = .ok (.ireturn, 1) := dk_at bX12_wind_0 21 rfl
theorem dX12_wind_44 : decode cX12_wind 44 = .ok (.bipush 12, 2) := dk_at bX12_wind_0 22 rfl
theorem dX12_wind_46 : decode cX12_wind 46 = .ok (.iload_n 1, 1) := dk_at bX12_wind_0 23 rfl
theorem dX12_wind_47 : decode cX12_wind 47 = .ok (.imul, 1) := dk_at bX12_wind_0 24 rfl
theorem dX12_wind_48 : decode cX12_wind 48 = .ok (.iload_n 2, 1) := dk_at bX12_wind_0 25 rfl
theorem dX12_wind_49 : decode cX12_wind 49 = .ok (.iadd, 1) := dk_at bX12_wind_0 26 rfl
theorem dX12_wind_50 : decode cX12_wind 50 = .ok (.istore 5, 2) := dk_at bX12_wind_0 27 rfl
theorem dX12_wind_52 : decode cX12_wind 52 = .ok (.bipush 10, 2) := dk_at bX12_wind_0 28 rfl
theorem dX12_wind_54 : decode cX12_wind 54 = .ok (.aload_n 0, 1) := dk_at bX12_wind_0 29 rfl
theorem dX12_wind_55 : decode cX12_wind 55 = .ok (.getfield 36, 3) := dk_at bX12_wind_0 30 rfl
theorem dX12_wind_58 : decode cX12_wind 58 = .ok (.iload 5, 2) := dk_at bX12_wind_0 31 rfl
theorem dX12_wind_60 : decode cX12_wind 60 = .ok (.iaload, 1) := dk_at bX12_wind_0 32 rfl
theorem dX12_wind_61 : decode cX12_wind 61 = .ok (.imul, 1) := dk_at bX12_wind_0 33 rfl
theorem dX12_wind_62 : decode cX12_wind 62 = .ok (.aload_n 0, 1) := dk_at bX12_wind_0 34 rfl
theorem dX12_wind_63 : decode cX12_wind 63 = .ok (.getfield 39, 3) := dk_at bX12_wind_0 35 rfl
theorem dX12_wind_66 : decode cX12_wind 66 = .ok (.iload 5, 2) := dk_at bX12_wind_0 36 rfl
theorem dX12_wind_68 : decode cX12_wind 68 = .ok (.iaload, 1) := dk_at bX12_wind_0 37 rfl
theorem dX12_wind_69 : decode cX12_wind 69 = .ok (.iadd, 1) := dk_at bX12_wind_0 38 rfl
theorem dX12_wind_70 : decode cX12_wind 70 = .ok (.istore 6, 2) := dk_at bX12_wind_0 39 rfl
theorem bX12_wind_72 : dk cX12_wind [(72, .aload_n 0, 1), (73, .getfield 36, 3), (76, .iload 5, 2), (78, .iload_n 3, 1), (79, .iastore, 1), (80, .aload_n 0, 1), (81, .getfield 39, 3), (84, .iload 5, 2), (86, .iload 4, 2), (88, .iastore, 1), (89, .iload 6, 2), (91, .ireturn, 1)] = true := by decide +kernel
theorem dX12_wind_72 : decode cX12_wind 72 = .ok (.aload_n 0, 1) := dk_at bX12_wind_72 0 rfl
theorem dX12_wind_73 : decode cX12_wind 73 = .ok (.getfield 36, 3) := dk_at bX12_wind_72 1 rfl
theorem dX12_wind_76 : decode cX12_wind 76 = .ok (.iload 5, 2) := dk_at bX12_wind_72 2 rfl
theorem dX12_wind_78 : decode cX12_wind 78 = .ok (.iload_n 3, 1) := dk_at bX12_wind_72 3 rfl
theorem dX12_wind_79 : decode cX12_wind 79 = .ok (.iastore, 1) := dk_at bX12_wind_72 4 rfl
theorem dX12_wind_80 : decode cX12_wind 80 = .ok (.aload_n 0, 1) := dk_at bX12_wind_72 5 rfl
theorem dX12_wind_81 : decode cX12_wind 81 = .ok (.getfield 39, 3) := dk_at bX12_wind_72 6 rfl
theorem dX12_wind_84 : decode cX12_wind 84 = .ok (.iload 5, 2) := dk_at bX12_wind_72 7 rfl
theorem dX12_wind_86 : decode cX12_wind 86 = .ok (.iload 4, 2) := dk_at bX12_wind_72 8 rfl
theorem dX12_wind_88 : decode cX12_wind 88 = .ok (.iastore, 1) := dk_at bX12_wind_72 9 rfl
theorem dX12_wind_89 : decode cX12_wind 89 = .ok (.iload 6, 2) := dk_at bX12_wind_72 10 rfl
theorem dX12_wind_91 : decode cX12_wind 91 = .ok (.ireturn, 1) := dk_at bX12_wind_72 11 rfl
set_option maxRecDepth 20000 in
theorem ggX12_isPort_X12_in : GoodIn wsX12_isPort wsX12_in := goodIn_r _ [4] rfl (by decide +kernel)
set_option maxRecDepth 20000 in
theorem gX12_isPort_X12_in : GoodIn wsX12_isPort (va_wsS RX12 148 yX12_in wsX12_in) := goodIn_app (goodIn_r _ [1, 2, 3] rfl (by decide +kernel)) ggX12_isPort_X12_in
theorem bX12_isPort_0 : dk cX12_isPort [(0, .iload_n 0, 1), (1, .iconst 0, 1), (2, .bipush 9, 2), (4, .invokestatic 148, 3), (7, .ireturn, 1)] = true := by decide +kernel
theorem dX12_isPort_0 : decode cX12_isPort 0 = .ok (.iload_n 0, 1) := dk_at bX12_isPort_0 0 rfl
theorem dX12_isPort_1 : decode cX12_isPort 1 = .ok (.iconst 0, 1) := dk_at bX12_isPort_0 1 rfl
theorem dX12_isPort_2 : decode cX12_isPort 2 = .ok (.bipush 9, 2) := dk_at bX12_isPort_0 2 rfl
theorem dX12_isPort_4 : decode cX12_isPort 4 = .ok (.invokestatic 148, 3) := dk_at bX12_isPort_0 3 rfl
theorem dX12_isPort_7 : decode cX12_isPort 7 = .ok (.ireturn, 1) := dk_at bX12_isPort_0 4 rfl
set_option maxRecDepth 20000 in
theorem ggX12_port_X12_isPort : GoodIn wsX12_port wsX12_isPort := goodIn_r _ [5, 6, 7, 4, 8] rfl (by decide +kernel)
set_option maxRecDepth 20000 in
theorem gX12_port_X12_isPort : GoodIn wsX12_port (va_wsS RX12 233 yX12_isPort wsX12_isPort) := goodIn_app (goodIn_r _ [2, 3, 4] rfl (by decide +kernel)) ggX12_port_X12_isPort
set_option maxRecDepth 20000 in
theorem ggX12_port_X12_isPlace : GoodIn wsX12_port wsX12_isPlace := goodIn_r _ [11, 6, 7, 4, 8] rfl (by decide +kernel)
set_option maxRecDepth 20000 in
theorem gX12_port_X12_isPlace : GoodIn wsX12_port (va_wsS RX12 236 yX12_isPlace wsX12_isPlace) := goodIn_app (goodIn_r _ [9, 10, 4] rfl (by decide +kernel)) ggX12_port_X12_isPlace
theorem bX12_port_0 : dk cX12_port [(0, .iload_n 1, 1), (1, .invokestatic 233, 3), (4, .ifCond .eq 10, 3), (7, .iload_n 2, 1), (8, .invokestatic 236, 3), (11, .ifCond .ne 6, 3), (14, .bipush (-2), 2), (16, .ireturn, 1), (17, .aload_n 0, 1), (18, .getfield 42, 3), (21, .iload_n 1, 1), (22, .iaload, 1), (23, .istore_n 3, 1), (24, .aload_n 0, 1), (25, .getfield 42, 3), (28, .iload_n 1, 1), (29, .iload_n 2, 1), (30, .iastore, 1), (31, .iload_n 3, 1), (32, .ireturn, 1)] = true := by decide +kernel
theorem dX12_port_0 : decode cX12_port 0 = .ok (.iload_n 1, 1) := dk_at bX12_port_0 0 rfl
theorem dX12_port_1 : decode cX12_port 1 = .ok (.invokestatic 233, 3) := dk_at bX12_port_0 1 rfl
theorem dX12_port_4 : decode cX12_port 4 = .ok (.ifCond .eq 10, 3) := dk_at bX12_port_0 2 rfl
theorem dX12_port_7 : decode cX12_port 7 = .ok (.iload_n 2, 1) := dk_at bX12_port_0 3 rfl
theorem dX12_port_8 : decode cX12_port 8 = .ok (.invokestatic 236, 3) := dk_at bX12_port_0 4 rfl
theorem dX12_port_11 : decode cX12_port 11 = .ok (.ifCond .ne 6, 3) := dk_at bX12_port_0 5 rfl
theorem dX12_port_14 : decode cX12_port 14 = .ok (.bipush (-2), 2) := dk_at bX12_port_0 6 rfl
theorem dX12_port_16 : decode cX12_port 16 = .ok (.ireturn, 1) := dk_at bX12_port_0 7 rfl
theorem dX12_port_17 : decode cX12_port 17 = .ok (.aload_n 0, 1) := dk_at bX12_port_0 8 rfl
theorem dX12_port_18 : decode cX12_port 18 = .ok (.getfield 42, 3) := dk_at bX12_port_0 9 rfl
theorem dX12_port_21 : decode cX12_port 21 = .ok (.iload_n 1, 1) := dk_at bX12_port_0 10 rfl
theorem dX12_port_22 : decode cX12_port 22 = .ok (.iaload, 1) := dk_at bX12_port_0 11 rfl
theorem dX12_port_23 : decode cX12_port 23 = .ok (.istore_n 3, 1) := dk_at bX12_port_0 12 rfl
theorem dX12_port_24 : decode cX12_port 24 = .ok (.aload_n 0, 1) := dk_at bX12_port_0 13 rfl
theorem dX12_port_25 : decode cX12_port 25 = .ok (.getfield 42, 3) := dk_at bX12_port_0 14 rfl
theorem dX12_port_28 : decode cX12_port 28 = .ok (.iload_n 1, 1) := dk_at bX12_port_0 15 rfl
theorem dX12_port_29 : decode cX12_port 29 = .ok (.iload_n 2, 1) := dk_at bX12_port_0 16 rfl
theorem dX12_port_30 : decode cX12_port 30 = .ok (.iastore, 1) := dk_at bX12_port_0 17 rfl
theorem dX12_port_31 : decode cX12_port 31 = .ok (.iload_n 3, 1) := dk_at bX12_port_0 18 rfl
theorem dX12_port_32 : decode cX12_port 32 = .ok (.ireturn, 1) := dk_at bX12_port_0 19 rfl
set_option maxRecDepth 20000 in
theorem ggX12_speed_X12_isBoat : GoodIn wsX12_speed wsX12_isBoat := goodIn_r _ [5, 6, 7, 4, 8] rfl (by decide +kernel)
set_option maxRecDepth 20000 in
theorem gX12_speed_X12_isBoat : GoodIn wsX12_speed (va_wsS RX12 222 yX12_isBoat wsX12_isBoat) := goodIn_app (goodIn_r _ [2, 3, 4] rfl (by decide +kernel)) ggX12_speed_X12_isBoat
set_option maxRecDepth 20000 in
theorem ggX12_speed_X12_in : GoodIn wsX12_speed wsX12_in := goodIn_r _ [8] rfl (by decide +kernel)
set_option maxRecDepth 20000 in
theorem gX12_speed_X12_in : GoodIn wsX12_speed (va_wsS RX12 148 yX12_in wsX12_in) := goodIn_app (goodIn_r _ [6, 7, 4] rfl (by decide +kernel)) ggX12_speed_X12_in
theorem bX12_speed_0 : dk cX12_speed [(0, .iload_n 1, 1), (1, .invokestatic 222, 3), (4, .ifCond .eq 32, 3), (7, .iload_n 2, 1), (8, .iconst 0, 1), (9, .iconst 4, 1), (10, .invokestatic 148, 3), (13, .ifCond .eq 23, 3), (16, .iload_n 3, 1), (17, .iconst 0, 1), (18, .iconst 4, 1), (19, .invokestatic 148, 3), (22, .ifCond .eq 14, 3), (25, .iload 4, 2), (27, .iconst 0, 1), (28, .bipush 40, 2), (30, .invokestatic 148, 3), (33, .ifCond .ne 6, 3), (36, .bipush (-2), 2), (38, .ireturn, 1), (39, .bipush 25, 2), (41, .iload_n 1, 1), (42, .imul, 1), (43, .iconst 5, 1), (44, .iload_n 2, 1), (45, .imul, 1), (46, .iadd, 1), (47, .iload_n 3, 1), (48, .iadd, 1), (49, .istore 5, 2), (51, .aload_n 0, 1), (52, .getfield 45, 3), (55, .iload 5, 2), (57, .iaload, 1), (58, .istore 6, 2), (60, .aload_n 0, 1), (61, .getfield 45, 3), (64, .iload 5, 2), (66, .iload 4, 2), (68, .iastore, 1)] = true := by decide +kernel
theorem dX12_speed_0 : decode cX12_speed 0 = .ok (.iload_n 1, 1) := dk_at bX12_speed_0 0 rfl
theorem dX12_speed_1 : decode cX12_speed 1 = .ok (.invokestatic 222, 3) := dk_at bX12_speed_0 1 rfl
theorem dX12_speed_4 : decode cX12_speed 4 = .ok (.ifCond .eq 32, 3) := dk_at bX12_speed_0 2 rfl
theorem dX12_speed_7 : decode cX12_speed 7 = .ok (.iload_n 2, 1) := dk_at bX12_speed_0 3 rfl
theorem dX12_speed_8 : decode cX12_speed 8 = .ok (.iconst 0, 1) := dk_at bX12_speed_0 4 rfl
theorem dX12_speed_9 : decode cX12_speed 9 = .ok (.iconst 4, 1) := dk_at bX12_speed_0 5 rfl
theorem dX12_speed_10 : decode cX12_speed 10 = .ok (.invokestatic 148, 3) := dk_at bX12_speed_0 6 rfl
theorem dX12_speed_13 : decode cX12_speed 13 = .ok (.ifCond .eq 23, 3) := dk_at bX12_speed_0 7 rfl
theorem dX12_speed_16 : decode cX12_speed 16 = .ok (.iload_n 3, 1) := dk_at bX12_speed_0 8 rfl
theorem dX12_speed_17 : decode cX12_speed 17 = .ok (.iconst 0, 1) := dk_at bX12_speed_0 9 rfl
theorem dX12_speed_18 : decode cX12_speed 18 = .ok (.iconst 4, 1) := dk_at bX12_speed_0 10 rfl
theorem dX12_speed_19 : decode cX12_speed 19 = .ok (.invokestatic 148, 3) := dk_at bX12_speed_0 11 rfl
theorem dX12_speed_22 : decode cX12_speed 22 = .ok (.ifCond .eq 14, 3) := dk_at bX12_speed_0 12 rfl
theorem dX12_speed_25 : decode cX12_speed 25 = .ok (.iload 4, 2) := dk_at bX12_speed_0 13 rfl
theorem dX12_speed_27 : decode cX12_speed 27 = .ok (.iconst 0, 1) := dk_at bX12_speed_0 14 rfl
theorem dX12_speed_28 : decode cX12_speed 28 = .ok (.bipush 40, 2) := dk_at bX12_speed_0 15 rfl
theorem dX12_speed_30 : decode cX12_speed 30 = .ok (.invokestatic 148, 3) := dk_at bX12_speed_0 16 rfl
theorem dX12_speed_33 : decode cX12_speed 33 = .ok (.ifCond .ne 6, 3) := dk_at bX12_speed_0 17 rfl
theorem dX12_speed_36 : decode cX12_speed 36 = .ok (.bipush (-2), 2) := dk_at bX12_speed_0 18 rfl
theorem dX12_speed_38 : decode cX12_speed 38 = .ok (.ireturn, 1) := dk_at bX12_speed_0 19 rfl
theorem dX12_speed_39 : decode cX12_speed 39 = .ok (.bipush 25, 2) := dk_at bX12_speed_0 20 rfl
theorem dX12_speed_41 : decode cX12_speed 41 = .ok (.iload_n 1, 1) := dk_at bX12_speed_0 21 rfl
theorem dX12_speed_42 : decode cX12_speed 42 = .ok (.imul, 1) := dk_at bX12_speed_0 22 rfl
theorem dX12_speed_43 : decode cX12_speed 43 = .ok (.iconst 5, 1) := dk_at bX12_speed_0 23 rfl
theorem dX12_speed_44 : decode cX12_speed 44 = .ok (.iload_n 2, 1) := dk_at bX12_speed_0 24 rfl
theorem dX12_speed_45 : decode cX12_speed 45 = .ok (.imul, 1) := dk_at bX12_speed_0 25 rfl
theorem dX12_speed_46 : decode cX12_speed 46 = .ok (.iadd, 1) := dk_at bX12_speed_0 26 rfl
theorem dX12_speed_47 : decode cX12_speed 47 = .ok (.iload_n 3, 1) := dk_at bX12_speed_0 27 rfl
theorem dX12_speed_48 : decode cX12_speed 48 = .ok (.iadd, 1) := dk_at bX12_speed_0 28 rfl
theorem dX12_speed_49 : decode cX12_speed 49 = .ok (.istore 5, 2) := dk_at bX12_speed_0 29 rfl
theorem dX12_speed_51 : decode cX12_speed 51 = .ok (.aload_n 0, 1) := dk_at bX12_speed_0 30 rfl
theorem dX12_speed_52 : decode cX12_speed 52 = .ok (.getfield 45, 3) := dk_at bX12_speed_0 31 rfl
theorem dX12_speed_55 : decode cX12_speed 55 = .ok (.iload 5, 2) := dk_at bX12_speed_0 32 rfl
theorem dX12_speed_57 : decode cX12_speed 57 = .ok (.iaload, 1) := dk_at bX12_speed_0 33 rfl
theorem dX12_speed_58 : decode cX12_speed 58 = .ok (.istore 6, 2) := dk_at bX12_speed_0 34 rfl
theorem dX12_speed_60 : decode cX12_speed 60 = .ok (.aload_n 0, 1) := dk_at bX12_speed_0 35 rfl
theorem dX12_speed_61 : decode cX12_speed 61 = .ok (.getfield 45, 3) := dk_at bX12_speed_0 36 rfl
theorem dX12_speed_64 : decode cX12_speed 64 = .ok (.iload 5, 2) := dk_at bX12_speed_0 37 rfl
theorem dX12_speed_66 : decode cX12_speed 66 = .ok (.iload 4, 2) := dk_at bX12_speed_0 38 rfl
theorem dX12_speed_68 : decode cX12_speed 68 = .ok (.iastore, 1) := dk_at bX12_speed_0 39 rfl
theorem bX12_speed_69 : dk cX12_speed [(69, .iload 6, 2), (71, .ireturn, 1)] = true := by decide +kernel
theorem dX12_speed_69 : decode cX12_speed 69 = .ok (.iload 6, 2) := dk_at bX12_speed_69 0 rfl
theorem dX12_speed_71 : decode cX12_speed 71 = .ok (.ireturn, 1) := dk_at bX12_speed_69 1 rfl
set_option maxRecDepth 20000 in
theorem ggX12_water_X12_isBoat : GoodIn wsX12_water wsX12_isBoat := goodIn_r _ [5, 6, 7, 4, 8] rfl (by decide +kernel)
set_option maxRecDepth 20000 in
theorem gX12_water_X12_isBoat : GoodIn wsX12_water (va_wsS RX12 222 yX12_isBoat wsX12_isBoat) := goodIn_app (goodIn_r _ [2, 3, 4] rfl (by decide +kernel)) ggX12_water_X12_isBoat
set_option maxRecDepth 20000 in
theorem ggX12_water_X12_in : GoodIn wsX12_water wsX12_in := goodIn_r _ [8] rfl (by decide +kernel)
set_option maxRecDepth 20000 in
theorem gX12_water_X12_in : GoodIn wsX12_water (va_wsS RX12 148 yX12_in wsX12_in) := goodIn_app (goodIn_r _ [6, 7, 4] rfl (by decide +kernel)) ggX12_water_X12_in
theorem bX12_water_0 : dk cX12_water [(0, .iload_n 1, 1), (1, .invokestatic 222, 3), (4, .ifCond .eq 14, 3), (7, .iload_n 2, 1), (8, .iconst 0, 1), (9, .sipush 10000, 3), (12, .invokestatic 148, 3), (15, .ifCond .ne 6, 3), (18, .bipush (-2), 2), (20, .ireturn, 1), (21, .aload_n 0, 1), (22, .getfield 48, 3), (25, .iload_n 1, 1), (26, .iaload, 1), (27, .istore_n 3, 1), (28, .aload_n 0, 1), (29, .getfield 48, 3), (32, .iload_n 1, 1), (33, .iload_n 2, 1), (34, .iastore, 1), (35, .iload_n 3, 1), (36, .ireturn, 1)] = true := by decide +kernel
theorem dX12_water_0 : decode cX12_water 0 = .ok (.iload_n 1, 1) := dk_at bX12_water_0 0 rfl
theorem dX12_water_1 : decode cX12_water 1 = .ok (.invokestatic 222, 3) := dk_at bX12_water_0 1 rfl
theorem dX12_water_4 : decode cX12_water 4 = .ok (.ifCond .eq 14, 3) := dk_at bX12_water_0 2 rfl
theorem dX12_water_7 : decode cX12_water 7 = .ok (.iload_n 2, 1) := dk_at bX12_water_0 3 rfl
theorem dX12_water_8 : decode cX12_water 8 = .ok (.iconst 0, 1) := dk_at bX12_water_0 4 rfl
theorem dX12_water_9 : decode cX12_water 9 = .ok (.sipush 10000, 3) := dk_at bX12_water_0 5 rfl
theorem dX12_water_12 : decode cX12_water 12 = .ok (.invokestatic 148, 3) := dk_at bX12_water_0 6 rfl
theorem dX12_water_15 : decode cX12_water 15 = .ok (.ifCond .ne 6, 3) := dk_at bX12_water_0 7 rfl
theorem dX12_water_18 : decode cX12_water 18 = .ok (.bipush (-2), 2) := dk_at bX12_water_0 8 rfl
theorem dX12_water_20 : decode cX12_water 20 = .ok (.ireturn, 1) := dk_at bX12_water_0 9 rfl
theorem dX12_water_21 : decode cX12_water 21 = .ok (.aload_n 0, 1) := dk_at bX12_water_0 10 rfl
theorem dX12_water_22 : decode cX12_water 22 = .ok (.getfield 48, 3) := dk_at bX12_water_0 11 rfl
theorem dX12_water_25 : decode cX12_water 25 = .ok (.iload_n 1, 1) := dk_at bX12_water_0 12 rfl
theorem dX12_water_26 : decode cX12_water 26 = .ok (.iaload, 1) := dk_at bX12_water_0 13 rfl
theorem dX12_water_27 : decode cX12_water 27 = .ok (.istore_n 3, 1) := dk_at bX12_water_0 14 rfl
theorem dX12_water_28 : decode cX12_water 28 = .ok (.aload_n 0, 1) := dk_at bX12_water_0 15 rfl
theorem dX12_water_29 : decode cX12_water 29 = .ok (.getfield 48, 3) := dk_at bX12_water_0 16 rfl
theorem dX12_water_32 : decode cX12_water 32 = .ok (.iload_n 1, 1) := dk_at bX12_water_0 17 rfl
theorem dX12_water_33 : decode cX12_water 33 = .ok (.iload_n 2, 1) := dk_at bX12_water_0 18 rfl
theorem dX12_water_34 : decode cX12_water 34 = .ok (.iastore, 1) := dk_at bX12_water_0 19 rfl
theorem dX12_water_35 : decode cX12_water 35 = .ok (.iload_n 3, 1) := dk_at bX12_water_0 20 rfl
theorem dX12_water_36 : decode cX12_water 36 = .ok (.ireturn, 1) := dk_at bX12_water_0 21 rfl
set_option maxRecDepth 20000 in
theorem ggX12_lasts_X12_isBoat : GoodIn wsX12_lasts wsX12_isBoat := goodIn_r _ [5, 6, 7, 4, 8] rfl (by decide +kernel)
set_option maxRecDepth 20000 in
theorem gX12_lasts_X12_isBoat : GoodIn wsX12_lasts (va_wsS RX12 222 yX12_isBoat wsX12_isBoat) := goodIn_app (goodIn_r _ [2, 3, 4] rfl (by decide +kernel)) ggX12_lasts_X12_isBoat
set_option maxRecDepth 20000 in
theorem ggX12_lasts_X12_in : GoodIn wsX12_lasts wsX12_in := goodIn_r _ [8] rfl (by decide +kernel)
set_option maxRecDepth 20000 in
theorem gX12_lasts_X12_in : GoodIn wsX12_lasts (va_wsS RX12 148 yX12_in wsX12_in) := goodIn_app (goodIn_r _ [6, 7, 4] rfl (by decide +kernel)) ggX12_lasts_X12_in
theorem bX12_lasts_0 : dk cX12_lasts [(0, .iload_n 1, 1), (1, .invokestatic 222, 3), (4, .ifCond .eq 23, 3), (7, .iload_n 2, 1), (8, .iconst 0, 1), (9, .iconst 3, 1), (10, .invokestatic 148, 3), (13, .ifCond .eq 14, 3), (16, .iload_n 3, 1), (17, .iconst 0, 1), (18, .sipush 10000, 3), (21, .invokestatic 148, 3), (24, .ifCond .ne 6, 3), (27, .bipush (-2), 2), (29, .ireturn, 1), (30, .aload_n 0, 1), (31, .getfield 51, 3), (34, .iconst 4, 1), (35, .iload_n 1, 1), (36, .imul, 1), (37, .iload_n 2, 1), (38, .iadd, 1), (39, .iaload, 1), (40, .istore 4, 2), (42, .aload_n 0, 1), (43, .getfield 51, 3), (46, .iconst 4, 1), (47, .iload_n 1, 1), (48, .imul, 1), (49, .iload_n 2, 1), (50, .iadd, 1), (51, .iload_n 3, 1), (52, .iastore, 1), (53, .iload 4, 2), (55, .iconst (-1), 1), (56, .if_icmp .ne 7, 3), (59, .iconst 0, 1), (60, .goto 5, 3), (63, .iload 4, 2), (65, .ireturn, 1)] = true := by decide +kernel
theorem dX12_lasts_0 : decode cX12_lasts 0 = .ok (.iload_n 1, 1) := dk_at bX12_lasts_0 0 rfl
theorem dX12_lasts_1 : decode cX12_lasts 1 = .ok (.invokestatic 222, 3) := dk_at bX12_lasts_0 1 rfl
theorem dX12_lasts_4 : decode cX12_lasts 4 = .ok (.ifCond .eq 23, 3) := dk_at bX12_lasts_0 2 rfl
theorem dX12_lasts_7 : decode cX12_lasts 7 = .ok (.iload_n 2, 1) := dk_at bX12_lasts_0 3 rfl
theorem dX12_lasts_8 : decode cX12_lasts 8 = .ok (.iconst 0, 1) := dk_at bX12_lasts_0 4 rfl
theorem dX12_lasts_9 : decode cX12_lasts 9 = .ok (.iconst 3, 1) := dk_at bX12_lasts_0 5 rfl
theorem dX12_lasts_10 : decode cX12_lasts 10 = .ok (.invokestatic 148, 3) := dk_at bX12_lasts_0 6 rfl
theorem dX12_lasts_13 : decode cX12_lasts 13 = .ok (.ifCond .eq 14, 3) := dk_at bX12_lasts_0 7 rfl
theorem dX12_lasts_16 : decode cX12_lasts 16 = .ok (.iload_n 3, 1) := dk_at bX12_lasts_0 8 rfl
theorem dX12_lasts_17 : decode cX12_lasts 17 = .ok (.iconst 0, 1) := dk_at bX12_lasts_0 9 rfl
theorem dX12_lasts_18 : decode cX12_lasts 18 = .ok (.sipush 10000, 3) := dk_at bX12_lasts_0 10 rfl
theorem dX12_lasts_21 : decode cX12_lasts 21 = .ok (.invokestatic 148, 3) := dk_at bX12_lasts_0 11 rfl
theorem dX12_lasts_24 : decode cX12_lasts 24 = .ok (.ifCond .ne 6, 3) := dk_at bX12_lasts_0 12 rfl
theorem dX12_lasts_27 : decode cX12_lasts 27 = .ok (.bipush (-2), 2) := dk_at bX12_lasts_0 13 rfl
theorem dX12_lasts_29 : decode cX12_lasts 29 = .ok (.ireturn, 1) := dk_at bX12_lasts_0 14 rfl
theorem dX12_lasts_30 : decode cX12_lasts 30 = .ok (.aload_n 0, 1) := dk_at bX12_lasts_0 15 rfl
theorem dX12_lasts_31 : decode cX12_lasts 31 = .ok (.getfield 51, 3) := dk_at bX12_lasts_0 16 rfl
theorem dX12_lasts_34 : decode cX12_lasts 34 = .ok (.iconst 4, 1) := dk_at bX12_lasts_0 17 rfl
theorem dX12_lasts_35 : decode cX12_lasts 35 = .ok (.iload_n 1, 1) := dk_at bX12_lasts_0 18 rfl
theorem dX12_lasts_36 : decode cX12_lasts 36 = .ok (.imul, 1) := dk_at bX12_lasts_0 19 rfl
theorem dX12_lasts_37 : decode cX12_lasts 37 = .ok (.iload_n 2, 1) := dk_at bX12_lasts_0 20 rfl
theorem dX12_lasts_38 : decode cX12_lasts 38 = .ok (.iadd, 1) := dk_at bX12_lasts_0 21 rfl
theorem dX12_lasts_39 : decode cX12_lasts 39 = .ok (.iaload, 1) := dk_at bX12_lasts_0 22 rfl
theorem dX12_lasts_40 : decode cX12_lasts 40 = .ok (.istore 4, 2) := dk_at bX12_lasts_0 23 rfl
theorem dX12_lasts_42 : decode cX12_lasts 42 = .ok (.aload_n 0, 1) := dk_at bX12_lasts_0 24 rfl
theorem dX12_lasts_43 : decode cX12_lasts 43 = .ok (.getfield 51, 3) := dk_at bX12_lasts_0 25 rfl
theorem dX12_lasts_46 : decode cX12_lasts 46 = .ok (.iconst 4, 1) := dk_at bX12_lasts_0 26 rfl
theorem dX12_lasts_47 : decode cX12_lasts 47 = .ok (.iload_n 1, 1) := dk_at bX12_lasts_0 27 rfl
theorem dX12_lasts_48 : decode cX12_lasts 48 = .ok (.imul, 1) := dk_at bX12_lasts_0 28 rfl
theorem dX12_lasts_49 : decode cX12_lasts 49 = .ok (.iload_n 2, 1) := dk_at bX12_lasts_0 29 rfl
theorem dX12_lasts_50 : decode cX12_lasts 50 = .ok (.iadd, 1) := dk_at bX12_lasts_0 30 rfl
theorem dX12_lasts_51 : decode cX12_lasts 51 = .ok (.iload_n 3, 1) := dk_at bX12_lasts_0 31 rfl
theorem dX12_lasts_52 : decode cX12_lasts 52 = .ok (.iastore, 1) := dk_at bX12_lasts_0 32 rfl
theorem dX12_lasts_53 : decode cX12_lasts 53 = .ok (.iload 4, 2) := dk_at bX12_lasts_0 33 rfl
theorem dX12_lasts_55 : decode cX12_lasts 55 = .ok (.iconst (-1), 1) := dk_at bX12_lasts_0 34 rfl
theorem dX12_lasts_56 : decode cX12_lasts 56 = .ok (.if_icmp .ne 7, 3) := dk_at bX12_lasts_0 35 rfl
theorem dX12_lasts_59 : decode cX12_lasts 59 = .ok (.iconst 0, 1) := dk_at bX12_lasts_0 36 rfl
theorem dX12_lasts_60 : decode cX12_lasts 60 = .ok (.goto 5, 3) := dk_at bX12_lasts_0 37 rfl
theorem dX12_lasts_63 : decode cX12_lasts 63 = .ok (.iload 4, 2) := dk_at bX12_lasts_0 38 rfl
theorem dX12_lasts_65 : decode cX12_lasts 65 = .ok (.ireturn, 1) := dk_at bX12_lasts_0 39 rfl
theorem bX12_monthOf_0 : dk cX12_monthOf [(0, .iload_n 0, 1), (1, .sipush 360, 3), (4, .irem, 1), (5, .bipush 30, 2), (7, .idiv, 1), (8, .ireturn, 1)] = true := by decide +kernel
theorem dX12_monthOf_0 : decode cX12_monthOf 0 = .ok (.iload_n 0, 1) := dk_at bX12_monthOf_0 0 rfl
theorem dX12_monthOf_1 : decode cX12_monthOf 1 = .ok (.sipush 360, 3) := dk_at bX12_monthOf_0 1 rfl
theorem dX12_monthOf_4 : decode cX12_monthOf 4 = .ok (.irem, 1) := dk_at bX12_monthOf_0 2 rfl
theorem dX12_monthOf_5 : decode cX12_monthOf 5 = .ok (.bipush 30, 2) := dk_at bX12_monthOf_0 3 rfl
theorem dX12_monthOf_7 : decode cX12_monthOf 7 = .ok (.idiv, 1) := dk_at bX12_monthOf_0 4 rfl
theorem dX12_monthOf_8 : decode cX12_monthOf 8 = .ok (.ireturn, 1) := dk_at bX12_monthOf_0 5 rfl
theorem bX12_zoneOf_0 : dk cX12_zoneOf [(0, .iload_n 0, 1), (1, .bipush 100, 2), (3, .irem, 1), (4, .iconst 5, 1), (5, .idiv, 1), (6, .bipush 6, 2), (8, .imul, 1), (9, .iload_n 0, 1), (10, .bipush 100, 2), (12, .idiv, 1), (13, .iconst 5, 1), (14, .idiv, 1), (15, .iadd, 1), (16, .ireturn, 1)] = true := by decide +kernel
theorem dX12_zoneOf_0 : decode cX12_zoneOf 0 = .ok (.iload_n 0, 1) := dk_at bX12_zoneOf_0 0 rfl
theorem dX12_zoneOf_1 : decode cX12_zoneOf 1 = .ok (.bipush 100, 2) := dk_at bX12_zoneOf_0 1 rfl
theorem dX12_zoneOf_3 : decode cX12_zoneOf 3 = .ok (.irem, 1) := dk_at bX12_zoneOf_0 2 rfl
theorem dX12_zoneOf_4 : decode cX12_zoneOf 4 = .ok (.iconst 5, 1) := dk_at bX12_zoneOf_0 3 rfl
theorem dX12_zoneOf_5 : decode cX12_zoneOf 5 = .ok (.idiv, 1) := dk_at bX12_zoneOf_0 4 rfl
theorem dX12_zoneOf_6 : decode cX12_zoneOf 6 = .ok (.bipush 6, 2) := dk_at bX12_zoneOf_0 5 rfl
theorem dX12_zoneOf_8 : decode cX12_zoneOf 8 = .ok (.imul, 1) := dk_at bX12_zoneOf_0 6 rfl
theorem dX12_zoneOf_9 : decode cX12_zoneOf 9 = .ok (.iload_n 0, 1) := dk_at bX12_zoneOf_0 7 rfl
theorem dX12_zoneOf_10 : decode cX12_zoneOf 10 = .ok (.bipush 100, 2) := dk_at bX12_zoneOf_0 8 rfl
theorem dX12_zoneOf_12 : decode cX12_zoneOf 12 = .ok (.idiv, 1) := dk_at bX12_zoneOf_0 9 rfl
theorem dX12_zoneOf_13 : decode cX12_zoneOf 13 = .ok (.iconst 5, 1) := dk_at bX12_zoneOf_0 10 rfl
theorem dX12_zoneOf_14 : decode cX12_zoneOf 14 = .ok (.idiv, 1) := dk_at bX12_zoneOf_0 11 rfl
theorem dX12_zoneOf_15 : decode cX12_zoneOf 15 = .ok (.iadd, 1) := dk_at bX12_zoneOf_0 12 rfl
theorem dX12_zoneOf_16 : decode cX12_zoneOf 16 = .ok (.ireturn, 1) := dk_at bX12_zoneOf_0 13 rfl
set_option maxRecDepth 20000 in
theorem ggX12_weather_X12_zoneOf : GoodIn wsX12_weather wsX12_zoneOf := goodIn_r _ [4] rfl (by decide +kernel)
set_option maxRecDepth 20000 in
theorem gX12_weather_X12_zoneOf : GoodIn wsX12_weather (va_wsS RX12 239 yX12_zoneOf wsX12_zoneOf) := goodIn_app (goodIn_r _ [1, 2, 3] rfl (by decide +kernel)) ggX12_weather_X12_zoneOf
set_option maxRecDepth 20000 in
theorem ggX12_weather_X12_monthOf : GoodIn wsX12_weather wsX12_monthOf := goodIn_r _ [7] rfl (by decide +kernel)
set_option maxRecDepth 20000 in
theorem gX12_weather_X12_monthOf : GoodIn wsX12_weather (va_wsS RX12 242 yX12_monthOf wsX12_monthOf) := goodIn_app (goodIn_r _ [5, 6, 3] rfl (by decide +kernel)) ggX12_weather_X12_monthOf
theorem bX12_weather_0 : dk cX12_weather [(0, .bipush 12, 2), (2, .iload_n 1, 1), (3, .invokestatic 239, 3), (6, .imul, 1), (7, .iload_n 2, 1), (8, .invokestatic 242, 3), (11, .iadd, 1), (12, .ireturn, 1)] = true := by decide +kernel
theorem dX12_weather_0 : decode cX12_weather 0 = .ok (.bipush 12, 2) := dk_at bX12_weather_0 0 rfl
theorem dX12_weather_2 : decode cX12_weather 2 = .ok (.iload_n 1, 1) := dk_at bX12_weather_0 1 rfl
theorem dX12_weather_3 : decode cX12_weather 3 = .ok (.invokestatic 239, 3) := dk_at bX12_weather_0 2 rfl
theorem dX12_weather_6 : decode cX12_weather 6 = .ok (.imul, 1) := dk_at bX12_weather_0 3 rfl
theorem dX12_weather_7 : decode cX12_weather 7 = .ok (.iload_n 2, 1) := dk_at bX12_weather_0 4 rfl
theorem dX12_weather_8 : decode cX12_weather 8 = .ok (.invokestatic 242, 3) := dk_at bX12_weather_0 5 rfl
theorem dX12_weather_11 : decode cX12_weather 11 = .ok (.iadd, 1) := dk_at bX12_weather_0 6 rfl
theorem dX12_weather_12 : decode cX12_weather 12 = .ok (.ireturn, 1) := dk_at bX12_weather_0 7 rfl
set_option maxRecDepth 20000 in
theorem ggX12_isCovered_X12_between : GoodIn wsX12_isCovered wsX12_between := goodIn_r _ [8, 9, 10, 7, 11] rfl (by decide +kernel)
set_option maxRecDepth 20000 in
theorem gX12_isCovered_X12_between : GoodIn wsX12_isCovered (va_wsS RX12 245 yX12_between wsX12_between) := goodIn_app (goodIn_r _ [5, 6, 7] rfl (by decide +kernel)) ggX12_isCovered_X12_between
set_option maxRecDepth 20000 in
theorem ggX12_isCovered_X12_in : GoodIn wsX12_isCovered wsX12_in := goodIn_r _ [11] rfl (by decide +kernel)
set_option maxRecDepth 20000 in
theorem gX12_isCovered_X12_in : GoodIn wsX12_isCovered (va_wsS RX12 148 yX12_in wsX12_in) := goodIn_app (goodIn_r _ [9, 10, 7] rfl (by decide +kernel)) ggX12_isCovered_X12_in
theorem bX12_isCovered_0 : dk cX12_isCovered [(0, .iload 4, 2), (2, .aload_n 0, 1), (3, .getfield 30, 3), (6, .iload_n 1, 1), (7, .iaload, 1), (8, .if_icmp .lt 14, 3), (11, .iload 5, 2), (13, .aload_n 0, 1), (14, .getfield 33, 3), (17, .iload_n 1, 1), (18, .iaload, 1), (19, .if_icmp .le 5, 3), (22, .iconst 0, 1), (23, .ireturn, 1), (24, .iload_n 3, 1), (25, .sipush 360, 3), (28, .irem, 1), (29, .istore 6, 2), (31, .bipush 72, 2), (33, .iload_n 1, 1), (34, .imul, 1), (35, .istore 7, 2), (37, .iload 7, 2), (39, .bipush 6, 2), (41, .bipush 12, 2), (43, .iload_n 1, 1), (44, .imul, 1), (45, .aload_n 0, 1), (46, .getfield 27, 3), (49, .iload_n 1, 1), (50, .iaload, 1), (51, .iadd, 1), (52, .imul, 1), (53, .if_icmp .ge 140, 3), (56, .iload_n 2, 1), (57, .bipush 100, 2), (59, .idiv, 1), (60, .aload_n 0, 1), (61, .getfield 24, 3), (64, .iload 7, 2)] = true := by decide +kernel
theorem dX12_isCovered_0 : decode cX12_isCovered 0 = .ok (.iload 4, 2) := dk_at bX12_isCovered_0 0 rfl
theorem dX12_isCovered_2 : decode cX12_isCovered 2 = .ok (.aload_n 0, 1) := dk_at bX12_isCovered_0 1 rfl
theorem dX12_isCovered_3 : decode cX12_isCovered 3 = .ok (.getfield 30, 3) := dk_at bX12_isCovered_0 2 rfl
theorem dX12_isCovered_6 : decode cX12_isCovered 6 = .ok (.iload_n 1, 1) := dk_at bX12_isCovered_0 3 rfl
theorem dX12_isCovered_7 : decode cX12_isCovered 7 = .ok (.iaload, 1) := dk_at bX12_isCovered_0 4 rfl
theorem dX12_isCovered_8 : decode cX12_isCovered 8 = .ok (.if_icmp .lt 14, 3) := dk_at bX12_isCovered_0 5 rfl
theorem dX12_isCovered_11 : decode cX12_isCovered 11 = .ok (.iload 5, 2) := dk_at bX12_isCovered_0 6 rfl
theorem dX12_isCovered_13 : decode cX12_isCovered 13 = .ok (.aload_n 0, 1) := dk_at bX12_isCovered_0 7 rfl
theorem dX12_isCovered_14 : decode cX12_isCovered 14 = .ok (.getfield 33, 3) := dk_at bX12_isCovered_0 8 rfl
theorem dX12_isCovered_17 : decode cX12_isCovered 17 = .ok (.iload_n 1, 1) := dk_at bX12_isCovered_0 9 rfl
theorem dX12_isCovered_18 : decode cX12_isCovered 18 = .ok (.iaload, 1) := dk_at bX12_isCovered_0 10 rfl
theorem dX12_isCovered_19 : decode cX12_isCovered 19 = .ok (.if_icmp .le 5, 3) := dk_at bX12_isCovered_0 11 rfl
theorem dX12_isCovered_22 : decode cX12_isCovered 22 = .ok (.iconst 0, 1) := dk_at bX12_isCovered_0 12 rfl
theorem dX12_isCovered_23 : decode cX12_isCovered 23 = .ok (.ireturn, 1) := dk_at bX12_isCovered_0 13 rfl
theorem dX12_isCovered_24 : decode cX12_isCovered 24 = .ok (.iload_n 3, 1) := dk_at bX12_isCovered_0 14 rfl
theorem dX12_isCovered_25 : decode cX12_isCovered 25 = .ok (.sipush 360, 3) := dk_at bX12_isCovered_0 15 rfl
theorem dX12_isCovered_28 : decode cX12_isCovered 28 = .ok (.irem, 1) := dk_at bX12_isCovered_0 16 rfl
theorem dX12_isCovered_29 : decode cX12_isCovered 29 = .ok (.istore 6, 2) := dk_at bX12_isCovered_0 17 rfl
theorem dX12_isCovered_31 : decode cX12_isCovered 31 = .ok (.bipush 72, 2) := dk_at bX12_isCovered_0 18 rfl
theorem dX12_isCovered_33 : decode cX12_isCovered 33 = .ok (.iload_n 1, 1) := dk_at bX12_isCovered_0 19 rfl
theorem dX12_isCovered_34 : decode cX12_isCovered 34 = .ok (.imul, 1) := dk_at bX12_isCovered_0 20 rfl
theorem dX12_isCovered_35 : decode cX12_isCovered 35 = .ok (.istore 7, 2) := dk_at bX12_isCovered_0 21 rfl
theorem dX12_isCovered_37 : decode cX12_isCovered 37 = .ok (.iload 7, 2) := dk_at bX12_isCovered_0 22 rfl
theorem dX12_isCovered_39 : decode cX12_isCovered 39 = .ok (.bipush 6, 2) := dk_at bX12_isCovered_0 23 rfl
theorem dX12_isCovered_41 : decode cX12_isCovered 41 = .ok (.bipush 12, 2) := dk_at bX12_isCovered_0 24 rfl
theorem dX12_isCovered_43 : decode cX12_isCovered 43 = .ok (.iload_n 1, 1) := dk_at bX12_isCovered_0 25 rfl
theorem dX12_isCovered_44 : decode cX12_isCovered 44 = .ok (.imul, 1) := dk_at bX12_isCovered_0 26 rfl
theorem dX12_isCovered_45 : decode cX12_isCovered 45 = .ok (.aload_n 0, 1) := dk_at bX12_isCovered_0 27 rfl
theorem dX12_isCovered_46 : decode cX12_isCovered 46 = .ok (.getfield 27, 3) := dk_at bX12_isCovered_0 28 rfl
theorem dX12_isCovered_49 : decode cX12_isCovered 49 = .ok (.iload_n 1, 1) := dk_at bX12_isCovered_0 29 rfl
theorem dX12_isCovered_50 : decode cX12_isCovered 50 = .ok (.iaload, 1) := dk_at bX12_isCovered_0 30 rfl
theorem dX12_isCovered_51 : decode cX12_isCovered 51 = .ok (.iadd, 1) := dk_at bX12_isCovered_0 31 rfl
theorem dX12_isCovered_52 : decode cX12_isCovered 52 = .ok (.imul, 1) := dk_at bX12_isCovered_0 32 rfl
theorem dX12_isCovered_53 : decode cX12_isCovered 53 = .ok (.if_icmp .ge 140, 3) := dk_at bX12_isCovered_0 33 rfl
theorem dX12_isCovered_56 : decode cX12_isCovered 56 = .ok (.iload_n 2, 1) := dk_at bX12_isCovered_0 34 rfl
theorem dX12_isCovered_57 : decode cX12_isCovered 57 = .ok (.bipush 100, 2) := dk_at bX12_isCovered_0 35 rfl
theorem dX12_isCovered_59 : decode cX12_isCovered 59 = .ok (.idiv, 1) := dk_at bX12_isCovered_0 36 rfl
theorem dX12_isCovered_60 : decode cX12_isCovered 60 = .ok (.aload_n 0, 1) := dk_at bX12_isCovered_0 37 rfl
theorem dX12_isCovered_61 : decode cX12_isCovered 61 = .ok (.getfield 24, 3) := dk_at bX12_isCovered_0 38 rfl
theorem dX12_isCovered_64 : decode cX12_isCovered 64 = .ok (.iload 7, 2) := dk_at bX12_isCovered_0 39 rfl
theorem bX12_isCovered_66 : dk cX12_isCovered [(66, .iaload, 1), (67, .aload_n 0, 1), (68, .getfield 24, 3), (71, .iload 7, 2), (73, .iconst 2, 1), (74, .iadd, 1), (75, .iaload, 1), (76, .invokestatic 245, 3), (79, .istore 8, 2), (81, .iload_n 2, 1), (82, .bipush 100, 2), (84, .irem, 1), (85, .aload_n 0, 1), (86, .getfield 24, 3), (89, .iload 7, 2), (91, .iconst 1, 1), (92, .iadd, 1), (93, .iaload, 1), (94, .aload_n 0, 1), (95, .getfield 24, 3), (98, .iload 7, 2), (100, .iconst 3, 1), (101, .iadd, 1), (102, .iaload, 1), (103, .invokestatic 245, 3), (106, .istore 9, 2), (108, .aload_n 0, 1), (109, .getfield 24, 3), (112, .iload 7, 2), (114, .iconst 4, 1), (115, .iadd, 1), (116, .iaload, 1), (117, .istore 10, 2), (119, .aload_n 0, 1), (120, .getfield 24, 3), (123, .iload 7, 2), (125, .iconst 5, 1), (126, .iadd, 1), (127, .iaload, 1), (128, .istore 11, 2)] = true := by decide +kernel
theorem dX12_isCovered_66 : decode cX12_isCovered 66 = .ok (.iaload, 1) := dk_at bX12_isCovered_66 0 rfl
theorem dX12_isCovered_67 : decode cX12_isCovered 67 = .ok (.aload_n 0, 1) := dk_at bX12_isCovered_66 1 rfl
theorem dX12_isCovered_68 : decode cX12_isCovered 68 = .ok (.getfield 24, 3) := dk_at bX12_isCovered_66 2 rfl
theorem dX12_isCovered_71 : decode cX12_isCovered 71 = .ok (.iload 7, 2) := dk_at bX12_isCovered_66 3 rfl
theorem dX12_isCovered_73 : decode cX12_isCovered 73 = .ok (.iconst 2, 1) := dk_at bX12_isCovered_66 4 rfl
theorem dX12_isCovered_74 : decode cX12_isCovered 74 = .ok (.iadd, 1) := dk_at bX12_isCovered_66 5 rfl
theorem dX12_isCovered_75 : decode cX12_isCovered 75 = .ok (.iaload, 1) := dk_at bX12_isCovered_66 6 rfl
theorem dX12_isCovered_76 : decode cX12_isCovered 76 = .ok (.invokestatic 245, 3) := dk_at bX12_isCovered_66 7 rfl
theorem dX12_isCovered_79 : decode cX12_isCovered 79 = .ok (.istore 8, 2) := dk_at bX12_isCovered_66 8 rfl
theorem dX12_isCovered_81 : decode cX12_isCovered 81 = .ok (.iload_n 2, 1) := dk_at bX12_isCovered_66 9 rfl
theorem dX12_isCovered_82 : decode cX12_isCovered 82 = .ok (.bipush 100, 2) := dk_at bX12_isCovered_66 10 rfl
theorem dX12_isCovered_84 : decode cX12_isCovered 84 = .ok (.irem, 1) := dk_at bX12_isCovered_66 11 rfl
theorem dX12_isCovered_85 : decode cX12_isCovered 85 = .ok (.aload_n 0, 1) := dk_at bX12_isCovered_66 12 rfl
theorem dX12_isCovered_86 : decode cX12_isCovered 86 = .ok (.getfield 24, 3) := dk_at bX12_isCovered_66 13 rfl
theorem dX12_isCovered_89 : decode cX12_isCovered 89 = .ok (.iload 7, 2) := dk_at bX12_isCovered_66 14 rfl
theorem dX12_isCovered_91 : decode cX12_isCovered 91 = .ok (.iconst 1, 1) := dk_at bX12_isCovered_66 15 rfl
theorem dX12_isCovered_92 : decode cX12_isCovered 92 = .ok (.iadd, 1) := dk_at bX12_isCovered_66 16 rfl
theorem dX12_isCovered_93 : decode cX12_isCovered 93 = .ok (.iaload, 1) := dk_at bX12_isCovered_66 17 rfl
theorem dX12_isCovered_94 : decode cX12_isCovered 94 = .ok (.aload_n 0, 1) := dk_at bX12_isCovered_66 18 rfl
theorem dX12_isCovered_95 : decode cX12_isCovered 95 = .ok (.getfield 24, 3) := dk_at bX12_isCovered_66 19 rfl
theorem dX12_isCovered_98 : decode cX12_isCovered 98 = .ok (.iload 7, 2) := dk_at bX12_isCovered_66 20 rfl
theorem dX12_isCovered_100 : decode cX12_isCovered 100 = .ok (.iconst 3, 1) := dk_at bX12_isCovered_66 21 rfl
theorem dX12_isCovered_101 : decode cX12_isCovered 101 = .ok (.iadd, 1) := dk_at bX12_isCovered_66 22 rfl
theorem dX12_isCovered_102 : decode cX12_isCovered 102 = .ok (.iaload, 1) := dk_at bX12_isCovered_66 23 rfl
theorem dX12_isCovered_103 : decode cX12_isCovered 103 = .ok (.invokestatic 245, 3) := dk_at bX12_isCovered_66 24 rfl
theorem dX12_isCovered_106 : decode cX12_isCovered 106 = .ok (.istore 9, 2) := dk_at bX12_isCovered_66 25 rfl
theorem dX12_isCovered_108 : decode cX12_isCovered 108 = .ok (.aload_n 0, 1) := dk_at bX12_isCovered_66 26 rfl
theorem dX12_isCovered_109 : decode cX12_isCovered 109 = .ok (.getfield 24, 3) := dk_at bX12_isCovered_66 27 rfl
theorem dX12_isCovered_112 : decode cX12_isCovered 112 = .ok (.iload 7, 2) := dk_at bX12_isCovered_66 28 rfl
theorem dX12_isCovered_114 : decode cX12_isCovered 114 = .ok (.iconst 4, 1) := dk_at bX12_isCovered_66 29 rfl
theorem dX12_isCovered_115 : decode cX12_isCovered 115 = .ok (.iadd, 1) := dk_at bX12_isCovered_66 30 rfl
theorem dX12_isCovered_116 : decode cX12_isCovered 116 = .ok (.iaload, 1) := dk_at bX12_isCovered_66 31 rfl
theorem dX12_isCovered_117 : decode cX12_isCovered 117 = .ok (.istore 10, 2) := dk_at bX12_isCovered_66 32 rfl
theorem dX12_isCovered_119 : decode cX12_isCovered 119 = .ok (.aload_n 0, 1) := dk_at bX12_isCovered_66 33 rfl
theorem dX12_isCovered_120 : decode cX12_isCovered 120 = .ok (.getfield 24, 3) := dk_at bX12_isCovered_66 34 rfl
theorem dX12_isCovered_123 : decode cX12_isCovered 123 = .ok (.iload 7, 2) := dk_at bX12_isCovered_66 35 rfl
theorem dX12_isCovered_125 : decode cX12_isCovered 125 = .ok (.iconst 5, 1) := dk_at bX12_isCovered_66 36 rfl
theorem dX12_isCovered_126 : decode cX12_isCovered 126 = .ok (.iadd, 1) := dk_at bX12_isCovered_66 37 rfl
theorem dX12_isCovered_127 : decode cX12_isCovered 127 = .ok (.iaload, 1) := dk_at bX12_isCovered_66 38 rfl
theorem dX12_isCovered_128 : decode cX12_isCovered 128 = .ok (.istore 11, 2) := dk_at bX12_isCovered_66 39 rfl
theorem bX12_isCovered_130 : dk cX12_isCovered [(130, .iload 10, 2), (132, .iload 11, 2), (134, .if_icmp .gt 15, 3), (137, .iload 6, 2), (139, .iload 10, 2), (141, .iload 11, 2), (143, .invokestatic 148, 3), (146, .goto 22, 3), (149, .iload 6, 2), (151, .iload 10, 2), (153, .if_icmp .ge 10, 3), (156, .iload 6, 2), (158, .iload 11, 2), (160, .if_icmp .gt 7, 3), (163, .iconst 1, 1), (164, .goto 4, 3), (167, .iconst 0, 1), (168, .istore 12, 2), (170, .iload 8, 2), (172, .ifCond .eq 15, 3), (175, .iload 9, 2), (177, .ifCond .eq 10, 3), (180, .iload 12, 2), (182, .ifCond .eq 5, 3), (185, .iconst 0, 1), (186, .ireturn, 1), (187, .iinc 7 6, 3), (190, .goto (-153), 3), (193, .iconst 1, 1), (194, .ireturn, 1)] = true := by decide +kernel
theorem dX12_isCovered_130 : decode cX12_isCovered 130 = .ok (.iload 10, 2) := dk_at bX12_isCovered_130 0 rfl
theorem dX12_isCovered_132 : decode cX12_isCovered 132 = .ok (.iload 11, 2) := dk_at bX12_isCovered_130 1 rfl
theorem dX12_isCovered_134 : decode cX12_isCovered 134 = .ok (.if_icmp .gt 15, 3) := dk_at bX12_isCovered_130 2 rfl
theorem dX12_isCovered_137 : decode cX12_isCovered 137 = .ok (.iload 6, 2) := dk_at bX12_isCovered_130 3 rfl
theorem dX12_isCovered_139 : decode cX12_isCovered 139 = .ok (.iload 10, 2) := dk_at bX12_isCovered_130 4 rfl
theorem dX12_isCovered_141 : decode cX12_isCovered 141 = .ok (.iload 11, 2) := dk_at bX12_isCovered_130 5 rfl
theorem dX12_isCovered_143 : decode cX12_isCovered 143 = .ok (.invokestatic 148, 3) := dk_at bX12_isCovered_130 6 rfl
theorem dX12_isCovered_146 : decode cX12_isCovered 146 = .ok (.goto 22, 3) := dk_at bX12_isCovered_130 7 rfl
theorem dX12_isCovered_149 : decode cX12_isCovered 149 = .ok (.iload 6, 2) := dk_at bX12_isCovered_130 8 rfl
theorem dX12_isCovered_151 : decode cX12_isCovered 151 = .ok (.iload 10, 2) := dk_at bX12_isCovered_130 9 rfl
theorem dX12_isCovered_153 : decode cX12_isCovered 153 = .ok (.if_icmp .ge 10, 3) := dk_at bX12_isCovered_130 10 rfl
theorem dX12_isCovered_156 : decode cX12_isCovered 156 = .ok (.iload 6, 2) := dk_at bX12_isCovered_130 11 rfl
theorem dX12_isCovered_158 : decode cX12_isCovered 158 = .ok (.iload 11, 2) := dk_at bX12_isCovered_130 12 rfl
theorem dX12_isCovered_160 : decode cX12_isCovered 160 = .ok (.if_icmp .gt 7, 3) := dk_at bX12_isCovered_130 13 rfl
theorem dX12_isCovered_163 : decode cX12_isCovered 163 = .ok (.iconst 1, 1) := dk_at bX12_isCovered_130 14 rfl
theorem dX12_isCovered_164 : decode cX12_isCovered 164 = .ok (.goto 4, 3) := dk_at bX12_isCovered_130 15 rfl
theorem dX12_isCovered_167 : decode cX12_isCovered 167 = .ok (.iconst 0, 1) := dk_at bX12_isCovered_130 16 rfl
theorem dX12_isCovered_168 : decode cX12_isCovered 168 = .ok (.istore 12, 2) := dk_at bX12_isCovered_130 17 rfl
theorem dX12_isCovered_170 : decode cX12_isCovered 170 = .ok (.iload 8, 2) := dk_at bX12_isCovered_130 18 rfl
theorem dX12_isCovered_172 : decode cX12_isCovered 172 = .ok (.ifCond .eq 15, 3) := dk_at bX12_isCovered_130 19 rfl
theorem dX12_isCovered_175 : decode cX12_isCovered 175 = .ok (.iload 9, 2) := dk_at bX12_isCovered_130 20 rfl
theorem dX12_isCovered_177 : decode cX12_isCovered 177 = .ok (.ifCond .eq 10, 3) := dk_at bX12_isCovered_130 21 rfl
theorem dX12_isCovered_180 : decode cX12_isCovered 180 = .ok (.iload 12, 2) := dk_at bX12_isCovered_130 22 rfl
theorem dX12_isCovered_182 : decode cX12_isCovered 182 = .ok (.ifCond .eq 5, 3) := dk_at bX12_isCovered_130 23 rfl
theorem dX12_isCovered_185 : decode cX12_isCovered 185 = .ok (.iconst 0, 1) := dk_at bX12_isCovered_130 24 rfl
theorem dX12_isCovered_186 : decode cX12_isCovered 186 = .ok (.ireturn, 1) := dk_at bX12_isCovered_130 25 rfl
theorem dX12_isCovered_187 : decode cX12_isCovered 187 = .ok (.iinc 7 6, 3) := dk_at bX12_isCovered_130 26 rfl
theorem dX12_isCovered_190 : decode cX12_isCovered 190 = .ok (.goto (-153), 3) := dk_at bX12_isCovered_130 27 rfl
theorem dX12_isCovered_193 : decode cX12_isCovered 193 = .ok (.iconst 1, 1) := dk_at bX12_isCovered_130 28 rfl
theorem dX12_isCovered_194 : decode cX12_isCovered 194 = .ok (.ireturn, 1) := dk_at bX12_isCovered_130 29 rfl
set_option maxRecDepth 20000 in
theorem ggX12_between_X12_in : GoodIn wsX12_between wsX12_in := goodIn_r _ [4] rfl (by decide +kernel)
set_option maxRecDepth 20000 in
theorem gX12_between_X12_in : GoodIn wsX12_between (va_wsS RX12 148 yX12_in wsX12_in) := goodIn_app (goodIn_r _ [1, 2, 3] rfl (by decide +kernel)) ggX12_between_X12_in
theorem bX12_between_0 : dk cX12_between [(0, .iload_n 1, 1), (1, .iload_n 2, 1), (2, .if_icmp .ge 12, 3), (5, .iload_n 0, 1), (6, .iload_n 1, 1), (7, .iload_n 2, 1), (8, .invokestatic 148, 3), (11, .goto 9, 3), (14, .iload_n 0, 1), (15, .iload_n 2, 1), (16, .iload_n 1, 1), (17, .invokestatic 148, 3), (20, .ireturn, 1)] = true := by decide +kernel
theorem dX12_between_0 : decode cX12_between 0 = .ok (.iload_n 1, 1) := dk_at bX12_between_0 0 rfl
theorem dX12_between_1 : decode cX12_between 1 = .ok (.iload_n 2, 1) := dk_at bX12_between_0 1 rfl
theorem dX12_between_2 : decode cX12_between 2 = .ok (.if_icmp .ge 12, 3) := dk_at bX12_between_0 2 rfl
theorem dX12_between_5 : decode cX12_between 5 = .ok (.iload_n 0, 1) := dk_at bX12_between_0 3 rfl
theorem dX12_between_6 : decode cX12_between 6 = .ok (.iload_n 1, 1) := dk_at bX12_between_0 4 rfl
theorem dX12_between_7 : decode cX12_between 7 = .ok (.iload_n 2, 1) := dk_at bX12_between_0 5 rfl
theorem dX12_between_8 : decode cX12_between 8 = .ok (.invokestatic 148, 3) := dk_at bX12_between_0 6 rfl
theorem dX12_between_11 : decode cX12_between 11 = .ok (.goto 9, 3) := dk_at bX12_between_0 7 rfl
theorem dX12_between_14 : decode cX12_between 14 = .ok (.iload_n 0, 1) := dk_at bX12_between_0 8 rfl
theorem dX12_between_15 : decode cX12_between 15 = .ok (.iload_n 2, 1) := dk_at bX12_between_0 9 rfl
theorem dX12_between_16 : decode cX12_between 16 = .ok (.iload_n 1, 1) := dk_at bX12_between_0 10 rfl
theorem dX12_between_17 : decode cX12_between 17 = .ok (.invokestatic 148, 3) := dk_at bX12_between_0 11 rfl
theorem dX12_between_20 : decode cX12_between 20 = .ok (.ireturn, 1) := dk_at bX12_between_0 12 rfl
set_option maxRecDepth 20000 in
theorem ggX12_covers_X12_isBoat : GoodIn wsX12_covers wsX12_isBoat := goodIn_r _ [4, 5, 6, 3, 7] rfl (by decide +kernel)
set_option maxRecDepth 20000 in
theorem gX12_covers_X12_isBoat : GoodIn wsX12_covers (va_wsS RX12 222 yX12_isBoat wsX12_isBoat) := goodIn_app (goodIn_r _ [1, 2, 3] rfl (by decide +kernel)) ggX12_covers_X12_isBoat
set_option maxRecDepth 20000 in
theorem ggX12_covers_X12_isPlace : GoodIn wsX12_covers wsX12_isPlace := goodIn_r _ [10, 5, 6, 3, 7] rfl (by decide +kernel)
set_option maxRecDepth 20000 in
theorem gX12_covers_X12_isPlace : GoodIn wsX12_covers (va_wsS RX12 236 yX12_isPlace wsX12_isPlace) := goodIn_app (goodIn_r _ [8, 9, 3] rfl (by decide +kernel)) ggX12_covers_X12_isPlace
set_option maxRecDepth 20000 in
theorem ggX12_covers_X12_in : GoodIn wsX12_covers wsX12_in := goodIn_r _ [7] rfl (by decide +kernel)
set_option maxRecDepth 20000 in
theorem gX12_covers_X12_in : GoodIn wsX12_covers (va_wsS RX12 148 yX12_in wsX12_in) := goodIn_app (goodIn_r _ [5, 6, 3] rfl (by decide +kernel)) ggX12_covers_X12_in
set_option maxRecDepth 20000 in
theorem ggX12_covers_X12_isCovered : GoodIn wsX12_covers wsX12_isCovered := goodIn_r _ [14, 15, 16, 17, 18, 19, 20, 3, 21, 5, 6, 7, 22, 23, 24, 25, 26, 27, 28, 29, 30, 31, 32, 33, 34, 35, 36, 37, 38, 39, 40, 41, 42, 43, 44, 45, 46, 47, 48, 49, 50, 51, 52, 53, 54, 55, 56, 57, 58, 59, 60, 61, 62, 63, 64, 65, 66, 67, 68, 69, 70, 71, 72, 73, 74, 75, 76, 77, 78, 79, 80] rfl (by decide +kernel)
set_option maxRecDepth 20000 in
theorem gX12_covers_X12_isCovered : GoodIn wsX12_covers (wsV RX12 248 RX12 yX12_isCovered wsX12_isCovered) := goodIn_app (goodIn_r _ [11, 12, 13, 3] rfl (by decide +kernel)) ggX12_covers_X12_isCovered
theorem bX12_covers_0 : dk cX12_covers [(0, .iload_n 1, 1), (1, .invokestatic 222, 3), (4, .ifCond .eq 43, 3), (7, .iload_n 2, 1), (8, .invokestatic 236, 3), (11, .ifCond .eq 36, 3), (14, .iload_n 3, 1), (15, .iconst 0, 1), (16, .sipush 999, 3), (19, .invokestatic 148, 3), (22, .ifCond .eq 25, 3), (25, .iload 4, 2), (27, .iconst 0, 1), (28, .bipush 9, 2), (30, .invokestatic 148, 3), (33, .ifCond .eq 14, 3), (36, .iload 5, 2), (38, .iconst 0, 1), (39, .bipush 9, 2), (41, .invokestatic 148, 3), (44, .ifCond .ne 6, 3), (47, .bipush (-2), 2), (49, .ireturn, 1), (50, .aload_n 0, 1), (51, .iload_n 1, 1), (52, .iload_n 2, 1), (53, .iload_n 3, 1), (54, .iload 4, 2), (56, .iload 5, 2), (58, .invokevirtual 248, 3), (61, .ifCond .eq 7, 3), (64, .iconst 1, 1), (65, .goto 4, 3), (68, .iconst 0, 1), (69, .ireturn, 1)] = true := by decide +kernel
theorem dX12_covers_0 : decode cX12_covers 0 = .ok (.iload_n 1, 1) := dk_at bX12_covers_0 0 rfl
theorem dX12_covers_1 : decode cX12_covers 1 = .ok (.invokestatic 222, 3) := dk_at bX12_covers_0 1 rfl
theorem dX12_covers_4 : decode cX12_covers 4 = .ok (.ifCond .eq 43, 3) := dk_at bX12_covers_0 2 rfl
theorem dX12_covers_7 : decode cX12_covers 7 = .ok (.iload_n 2, 1) := dk_at bX12_covers_0 3 rfl
theorem dX12_covers_8 : decode cX12_covers 8 = .ok (.invokestatic 236, 3) := dk_at bX12_covers_0 4 rfl
theorem dX12_covers_11 : decode cX12_covers 11 = .ok (.ifCond .eq 36, 3) := dk_at bX12_covers_0 5 rfl
theorem dX12_covers_14 : decode cX12_covers 14 = .ok (.iload_n 3, 1) := dk_at bX12_covers_0 6 rfl
theorem dX12_covers_15 : decode cX12_covers 15 = .ok (.iconst 0, 1) := dk_at bX12_covers_0 7 rfl
theorem dX12_covers_16 : decode cX12_covers 16 = .ok (.sipush 999, 3) := dk_at bX12_covers_0 8 rfl
theorem dX12_covers_19 : decode cX12_covers 19 = .ok (.invokestatic 148, 3) := dk_at bX12_covers_0 9 rfl
theorem dX12_covers_22 : decode cX12_covers 22 = .ok (.ifCond .eq 25, 3) := dk_at bX12_covers_0 10 rfl
theorem dX12_covers_25 : decode cX12_covers 25 = .ok (.iload 4, 2) := dk_at bX12_covers_0 11 rfl
theorem dX12_covers_27 : decode cX12_covers 27 = .ok (.iconst 0, 1) := dk_at bX12_covers_0 12 rfl
theorem dX12_covers_28 : decode cX12_covers 28 = .ok (.bipush 9, 2) := dk_at bX12_covers_0 13 rfl
theorem dX12_covers_30 : decode cX12_covers 30 = .ok (.invokestatic 148, 3) := dk_at bX12_covers_0 14 rfl
theorem dX12_covers_33 : decode cX12_covers 33 = .ok (.ifCond .eq 14, 3) := dk_at bX12_covers_0 15 rfl
theorem dX12_covers_36 : decode cX12_covers 36 = .ok (.iload 5, 2) := dk_at bX12_covers_0 16 rfl
theorem dX12_covers_38 : decode cX12_covers 38 = .ok (.iconst 0, 1) := dk_at bX12_covers_0 17 rfl
theorem dX12_covers_39 : decode cX12_covers 39 = .ok (.bipush 9, 2) := dk_at bX12_covers_0 18 rfl
theorem dX12_covers_41 : decode cX12_covers 41 = .ok (.invokestatic 148, 3) := dk_at bX12_covers_0 19 rfl
theorem dX12_covers_44 : decode cX12_covers 44 = .ok (.ifCond .ne 6, 3) := dk_at bX12_covers_0 20 rfl
theorem dX12_covers_47 : decode cX12_covers 47 = .ok (.bipush (-2), 2) := dk_at bX12_covers_0 21 rfl
theorem dX12_covers_49 : decode cX12_covers 49 = .ok (.ireturn, 1) := dk_at bX12_covers_0 22 rfl
theorem dX12_covers_50 : decode cX12_covers 50 = .ok (.aload_n 0, 1) := dk_at bX12_covers_0 23 rfl
theorem dX12_covers_51 : decode cX12_covers 51 = .ok (.iload_n 1, 1) := dk_at bX12_covers_0 24 rfl
theorem dX12_covers_52 : decode cX12_covers 52 = .ok (.iload_n 2, 1) := dk_at bX12_covers_0 25 rfl
theorem dX12_covers_53 : decode cX12_covers 53 = .ok (.iload_n 3, 1) := dk_at bX12_covers_0 26 rfl
theorem dX12_covers_54 : decode cX12_covers 54 = .ok (.iload 4, 2) := dk_at bX12_covers_0 27 rfl
theorem dX12_covers_56 : decode cX12_covers 56 = .ok (.iload 5, 2) := dk_at bX12_covers_0 28 rfl
theorem dX12_covers_58 : decode cX12_covers 58 = .ok (.invokevirtual 248, 3) := dk_at bX12_covers_0 29 rfl
theorem dX12_covers_61 : decode cX12_covers 61 = .ok (.ifCond .eq 7, 3) := dk_at bX12_covers_0 30 rfl
theorem dX12_covers_64 : decode cX12_covers 64 = .ok (.iconst 1, 1) := dk_at bX12_covers_0 31 rfl
theorem dX12_covers_65 : decode cX12_covers 65 = .ok (.goto 4, 3) := dk_at bX12_covers_0 32 rfl
theorem dX12_covers_68 : decode cX12_covers 68 = .ok (.iconst 0, 1) := dk_at bX12_covers_0 33 rfl
theorem dX12_covers_69 : decode cX12_covers 69 = .ok (.ireturn, 1) := dk_at bX12_covers_0 34 rfl
set_option maxRecDepth 20000 in
theorem ggX12_begin_X12_isBoat : GoodIn wsX12_begin wsX12_isBoat := goodIn_r _ [21, 22, 23, 20, 24] rfl (by decide +kernel)
set_option maxRecDepth 20000 in
theorem gX12_begin_X12_isBoat : GoodIn wsX12_begin (va_wsS RX12 222 yX12_isBoat wsX12_isBoat) := goodIn_app (goodIn_r _ [18, 19, 20] rfl (by decide +kernel)) ggX12_begin_X12_isBoat
set_option maxRecDepth 20000 in
theorem ggX12_begin_X12_isPort : GoodIn wsX12_begin wsX12_isPort := goodIn_r _ [27, 22, 23, 20, 24] rfl (by decide +kernel)
set_option maxRecDepth 20000 in
theorem gX12_begin_X12_isPort : GoodIn wsX12_begin (va_wsS RX12 233 yX12_isPort wsX12_isPort) := goodIn_app (goodIn_r _ [25, 26, 20] rfl (by decide +kernel)) ggX12_begin_X12_isPort
set_option maxRecDepth 20000 in
theorem ggX12_begin_X12_in : GoodIn wsX12_begin wsX12_in := goodIn_r _ [24] rfl (by decide +kernel)
set_option maxRecDepth 20000 in
theorem gX12_begin_X12_in : GoodIn wsX12_begin (va_wsS RX12 148 yX12_in wsX12_in) := goodIn_app (goodIn_r _ [22, 23, 20] rfl (by decide +kernel)) ggX12_begin_X12_in
theorem bX12_begin_0 : dk cX12_begin [(0, .iload_n 1, 1), (1, .invokestatic 222, 3), (4, .ifCond .eq 32, 3), (7, .iload_n 2, 1), (8, .invokestatic 233, 3), (11, .ifCond .eq 25, 3), (14, .iload_n 3, 1), (15, .iconst 0, 1), (16, .sipush 499, 3), (19, .invokestatic 148, 3), (22, .ifCond .eq 14, 3), (25, .iload 4, 2), (27, .iconst 1, 1), (28, .bipush 9, 2), (30, .invokestatic 148, 3), (33, .ifCond .ne 6, 3), (36, .bipush (-2), 2), (38, .ireturn, 1), (39, .aload_n 0, 1), (40, .getfield 54, 3), (43, .iload_n 1, 1), (44, .baload, 1), (45, .ifCond .eq 15, 3), (48, .aload_n 0, 1), (49, .getfield 58, 3), (52, .iload_n 1, 1), (53, .iaload, 1), (54, .ifCond .ne 6, 3), (57, .bipush (-4), 2), (59, .ireturn, 1), (60, .aload_n 0, 1), (61, .getfield 54, 3), (64, .iload_n 1, 1), (65, .iconst 1, 1), (66, .bastore, 1), (67, .aload_n 0, 1), (68, .getfield 58, 3), (71, .iload_n 1, 1), (72, .iconst 0, 1), (73, .iastore, 1)] = true := by decide +kernel
theorem dX12_begin_0 : decode cX12_begin 0 = .ok (.iload_n 1, 1) := dk_at bX12_begin_0 0 rfl
theorem dX12_begin_1 : decode cX12_begin 1 = .ok (.invokestatic 222, 3) := dk_at bX12_begin_0 1 rfl
theorem dX12_begin_4 : decode cX12_begin 4 = .ok (.ifCond .eq 32, 3) := dk_at bX12_begin_0 2 rfl
theorem dX12_begin_7 : decode cX12_begin 7 = .ok (.iload_n 2, 1) := dk_at bX12_begin_0 3 rfl
theorem dX12_begin_8 : decode cX12_begin 8 = .ok (.invokestatic 233, 3) := dk_at bX12_begin_0 4 rfl
theorem dX12_begin_11 : decode cX12_begin 11 = .ok (.ifCond .eq 25, 3) := dk_at bX12_begin_0 5 rfl
theorem dX12_begin_14 : decode cX12_begin 14 = .ok (.iload_n 3, 1) := dk_at bX12_begin_0 6 rfl
theorem dX12_begin_15 : decode cX12_begin 15 = .ok (.iconst 0, 1) := dk_at bX12_begin_0 7 rfl
theorem dX12_begin_16 : decode cX12_begin 16 = .ok (.sipush 499, 3) := dk_at bX12_begin_0 8 rfl
theorem dX12_begin_19 : decode cX12_begin 19 = .ok (.invokestatic 148, 3) := dk_at bX12_begin_0 9 rfl
theorem dX12_begin_22 : decode cX12_begin 22 = .ok (.ifCond .eq 14, 3) := dk_at bX12_begin_0 10 rfl
theorem dX12_begin_25 : decode cX12_begin 25 = .ok (.iload 4, 2) := dk_at bX12_begin_0 11 rfl
theorem dX12_begin_27 : decode cX12_begin 27 = .ok (.iconst 1, 1) := dk_at bX12_begin_0 12 rfl
theorem dX12_begin_28 : decode cX12_begin 28 = .ok (.bipush 9, 2) := dk_at bX12_begin_0 13 rfl
theorem dX12_begin_30 : decode cX12_begin 30 = .ok (.invokestatic 148, 3) := dk_at bX12_begin_0 14 rfl
theorem dX12_begin_33 : decode cX12_begin 33 = .ok (.ifCond .ne 6, 3) := dk_at bX12_begin_0 15 rfl
theorem dX12_begin_36 : decode cX12_begin 36 = .ok (.bipush (-2), 2) := dk_at bX12_begin_0 16 rfl
theorem dX12_begin_38 : decode cX12_begin 38 = .ok (.ireturn, 1) := dk_at bX12_begin_0 17 rfl
theorem dX12_begin_39 : decode cX12_begin 39 = .ok (.aload_n 0, 1) := dk_at bX12_begin_0 18 rfl
theorem dX12_begin_40 : decode cX12_begin 40 = .ok (.getfield 54, 3) := dk_at bX12_begin_0 19 rfl
theorem dX12_begin_43 : decode cX12_begin 43 = .ok (.iload_n 1, 1) := dk_at bX12_begin_0 20 rfl
theorem dX12_begin_44 : decode cX12_begin 44 = .ok (.baload, 1) := dk_at bX12_begin_0 21 rfl
theorem dX12_begin_45 : decode cX12_begin 45 = .ok (.ifCond .eq 15, 3) := dk_at bX12_begin_0 22 rfl
theorem dX12_begin_48 : decode cX12_begin 48 = .ok (.aload_n 0, 1) := dk_at bX12_begin_0 23 rfl
theorem dX12_begin_49 : decode cX12_begin 49 = .ok (.getfield 58, 3) := dk_at bX12_begin_0 24 rfl
theorem dX12_begin_52 : decode cX12_begin 52 = .ok (.iload_n 1, 1) := dk_at bX12_begin_0 25 rfl
theorem dX12_begin_53 : decode cX12_begin 53 = .ok (.iaload, 1) := dk_at bX12_begin_0 26 rfl
theorem dX12_begin_54 : decode cX12_begin 54 = .ok (.ifCond .ne 6, 3) := dk_at bX12_begin_0 27 rfl
theorem dX12_begin_57 : decode cX12_begin 57 = .ok (.bipush (-4), 2) := dk_at bX12_begin_0 28 rfl
theorem dX12_begin_59 : decode cX12_begin 59 = .ok (.ireturn, 1) := dk_at bX12_begin_0 29 rfl
theorem dX12_begin_60 : decode cX12_begin 60 = .ok (.aload_n 0, 1) := dk_at bX12_begin_0 30 rfl
theorem dX12_begin_61 : decode cX12_begin 61 = .ok (.getfield 54, 3) := dk_at bX12_begin_0 31 rfl
theorem dX12_begin_64 : decode cX12_begin 64 = .ok (.iload_n 1, 1) := dk_at bX12_begin_0 32 rfl
theorem dX12_begin_65 : decode cX12_begin 65 = .ok (.iconst 1, 1) := dk_at bX12_begin_0 33 rfl
theorem dX12_begin_66 : decode cX12_begin 66 = .ok (.bastore, 1) := dk_at bX12_begin_0 34 rfl
theorem dX12_begin_67 : decode cX12_begin 67 = .ok (.aload_n 0, 1) := dk_at bX12_begin_0 35 rfl
theorem dX12_begin_68 : decode cX12_begin 68 = .ok (.getfield 58, 3) := dk_at bX12_begin_0 36 rfl
theorem dX12_begin_71 : decode cX12_begin 71 = .ok (.iload_n 1, 1) := dk_at bX12_begin_0 37 rfl
theorem dX12_begin_72 : decode cX12_begin 72 = .ok (.iconst 0, 1) := dk_at bX12_begin_0 38 rfl
theorem dX12_begin_73 : decode cX12_begin 73 = .ok (.iastore, 1) := dk_at bX12_begin_0 39 rfl
theorem bX12_begin_74 : dk cX12_begin [(74, .aload_n 0, 1), (75, .getfield 61, 3), (78, .iload_n 1, 1), (79, .aload_n 0, 1), (80, .getfield 42, 3), (83, .iload_n 2, 1), (84, .iaload, 1), (85, .iastore, 1), (86, .aload_n 0, 1), (87, .getfield 82, 3), (90, .iload_n 1, 1), (91, .aload_n 0, 1), (92, .getfield 42, 3), (95, .iload_n 2, 1), (96, .iaload, 1), (97, .iastore, 1), (98, .aload_n 0, 1), (99, .getfield 64, 3), (102, .iload_n 1, 1), (103, .iload_n 3, 1), (104, .iastore, 1), (105, .aload_n 0, 1), (106, .getfield 67, 3), (109, .iload_n 1, 1), (110, .iload 4, 2), (112, .iastore, 1), (113, .aload_n 0, 1), (114, .getfield 73, 3), (117, .iload_n 1, 1), (118, .iconst 0, 1), (119, .iastore, 1), (120, .aload_n 0, 1), (121, .getfield 76, 3), (124, .iload_n 1, 1), (125, .iconst 0, 1), (126, .iastore, 1), (127, .aload_n 0, 1), (128, .getfield 79, 3), (131, .iload_n 1, 1), (132, .iconst 0, 1)] = true := by decide +kernel
theorem dX12_begin_74 : decode cX12_begin 74 = .ok (.aload_n 0, 1) := dk_at bX12_begin_74 0 rfl
theorem dX12_begin_75 : decode cX12_begin 75 = .ok (.getfield 61, 3) := dk_at bX12_begin_74 1 rfl
theorem dX12_begin_78 : decode cX12_begin 78 = .ok (.iload_n 1, 1) := dk_at bX12_begin_74 2 rfl
theorem dX12_begin_79 : decode cX12_begin 79 = .ok (.aload_n 0, 1) := dk_at bX12_begin_74 3 rfl
theorem dX12_begin_80 : decode cX12_begin 80 = .ok (.getfield 42, 3) := dk_at bX12_begin_74 4 rfl
theorem dX12_begin_83 : decode cX12_begin 83 = .ok (.iload_n 2, 1) := dk_at bX12_begin_74 5 rfl
theorem dX12_begin_84 : decode cX12_begin 84 = .ok (.iaload, 1) := dk_at bX12_begin_74 6 rfl
theorem dX12_begin_85 : decode cX12_begin 85 = .ok (.iastore, 1) := dk_at bX12_begin_74 7 rfl
theorem dX12_begin_86 : decode cX12_begin 86 = .ok (.aload_n 0, 1) := dk_at bX12_begin_74 8 rfl
theorem dX12_begin_87 : decode cX12_begin 87 = .ok (.getfield 82, 3) := dk_at bX12_begin_74 9 rfl
theorem dX12_begin_90 : decode cX12_begin 90 = .ok (.iload_n 1, 1) := dk_at bX12_begin_74 10 rfl
theorem dX12_begin_91 : decode cX12_begin 91 = .ok (.aload_n 0, 1) := dk_at bX12_begin_74 11 rfl
theorem dX12_begin_92 : decode cX12_begin 92 = .ok (.getfield 42, 3) := dk_at bX12_begin_74 12 rfl
theorem dX12_begin_95 : decode cX12_begin 95 = .ok (.iload_n 2, 1) := dk_at bX12_begin_74 13 rfl
theorem dX12_begin_96 : decode cX12_begin 96 = .ok (.iaload, 1) := dk_at bX12_begin_74 14 rfl
theorem dX12_begin_97 : decode cX12_begin 97 = .ok (.iastore, 1) := dk_at bX12_begin_74 15 rfl
theorem dX12_begin_98 : decode cX12_begin 98 = .ok (.aload_n 0, 1) := dk_at bX12_begin_74 16 rfl
theorem dX12_begin_99 : decode cX12_begin 99 = .ok (.getfield 64, 3) := dk_at bX12_begin_74 17 rfl
theorem dX12_begin_102 : decode cX12_begin 102 = .ok (.iload_n 1, 1) := dk_at bX12_begin_74 18 rfl
theorem dX12_begin_103 : decode cX12_begin 103 = .ok (.iload_n 3, 1) := dk_at bX12_begin_74 19 rfl
theorem dX12_begin_104 : decode cX12_begin 104 = .ok (.iastore, 1) := dk_at bX12_begin_74 20 rfl
theorem dX12_begin_105 : decode cX12_begin 105 = .ok (.aload_n 0, 1) := dk_at bX12_begin_74 21 rfl
theorem dX12_begin_106 : decode cX12_begin 106 = .ok (.getfield 67, 3) := dk_at bX12_begin_74 22 rfl
theorem dX12_begin_109 : decode cX12_begin 109 = .ok (.iload_n 1, 1) := dk_at bX12_begin_74 23 rfl
theorem dX12_begin_110 : decode cX12_begin 110 = .ok (.iload 4, 2) := dk_at bX12_begin_74 24 rfl
theorem dX12_begin_112 : decode cX12_begin 112 = .ok (.iastore, 1) := dk_at bX12_begin_74 25 rfl
theorem dX12_begin_113 : decode cX12_begin 113 = .ok (.aload_n 0, 1) := dk_at bX12_begin_74 26 rfl
theorem dX12_begin_114 : decode cX12_begin 114 = .ok (.getfield 73, 3) := dk_at bX12_begin_74 27 rfl
theorem dX12_begin_117 : decode cX12_begin 117 = .ok (.iload_n 1, 1) := dk_at bX12_begin_74 28 rfl
theorem dX12_begin_118 : decode cX12_begin 118 = .ok (.iconst 0, 1) := dk_at bX12_begin_74 29 rfl
theorem dX12_begin_119 : decode cX12_begin 119 = .ok (.iastore, 1) := dk_at bX12_begin_74 30 rfl
theorem dX12_begin_120 : decode cX12_begin 120 = .ok (.aload_n 0, 1) := dk_at bX12_begin_74 31 rfl
theorem dX12_begin_121 : decode cX12_begin 121 = .ok (.getfield 76, 3) := dk_at bX12_begin_74 32 rfl
theorem dX12_begin_124 : decode cX12_begin 124 = .ok (.iload_n 1, 1) := dk_at bX12_begin_74 33 rfl
theorem dX12_begin_125 : decode cX12_begin 125 = .ok (.iconst 0, 1) := dk_at bX12_begin_74 34 rfl
theorem dX12_begin_126 : decode cX12_begin 126 = .ok (.iastore, 1) := dk_at bX12_begin_74 35 rfl
theorem dX12_begin_127 : decode cX12_begin 127 = .ok (.aload_n 0, 1) := dk_at bX12_begin_74 36 rfl
theorem dX12_begin_128 : decode cX12_begin 128 = .ok (.getfield 79, 3) := dk_at bX12_begin_74 37 rfl
theorem dX12_begin_131 : decode cX12_begin 131 = .ok (.iload_n 1, 1) := dk_at bX12_begin_74 38 rfl
theorem dX12_begin_132 : decode cX12_begin 132 = .ok (.iconst 0, 1) := dk_at bX12_begin_74 39 rfl
theorem bX12_begin_133 : dk cX12_begin [(133, .iastore, 1), (134, .aload_n 0, 1), (135, .getfield 85, 3), (138, .iload_n 1, 1), (139, .iconst 0, 1), (140, .iastore, 1), (141, .aload_n 0, 1), (142, .getfield 88, 3), (145, .iload_n 1, 1), (146, .iconst 0, 1), (147, .bastore, 1), (148, .aload_n 0, 1), (149, .getfield 91, 3), (152, .iload_n 1, 1), (153, .iconst 0, 1), (154, .iastore, 1), (155, .aload_n 0, 1), (156, .getfield 94, 3), (159, .iload_n 1, 1), (160, .iconst 0, 1), (161, .iastore, 1), (162, .aload_n 0, 1), (163, .getfield 97, 3), (166, .iload_n 1, 1), (167, .iconst 0, 1), (168, .iastore, 1), (169, .aload_n 0, 1), (170, .getfield 100, 3), (173, .iload_n 1, 1), (174, .iconst 0, 1), (175, .iastore, 1)] = true := by decide +kernel
theorem dX12_begin_133 : decode cX12_begin 133 = .ok (.iastore, 1) := dk_at bX12_begin_133 0 rfl
theorem dX12_begin_134 : decode cX12_begin 134 = .ok (.aload_n 0, 1) := dk_at bX12_begin_133 1 rfl
theorem dX12_begin_135 : decode cX12_begin 135 = .ok (.getfield 85, 3) := dk_at bX12_begin_133 2 rfl
theorem dX12_begin_138 : decode cX12_begin 138 = .ok (.iload_n 1, 1) := dk_at bX12_begin_133 3 rfl
theorem dX12_begin_139 : decode cX12_begin 139 = .ok (.iconst 0, 1) := dk_at bX12_begin_133 4 rfl
theorem dX12_begin_140 : decode cX12_begin 140 = .ok (.iastore, 1) := dk_at bX12_begin_133 5 rfl
theorem dX12_begin_141 : decode cX12_begin 141 = .ok (.aload_n 0, 1) := dk_at bX12_begin_133 6 rfl
theorem dX12_begin_142 : decode cX12_begin 142 = .ok (.getfield 88, 3) := dk_at bX12_begin_133 7 rfl
theorem dX12_begin_145 : decode cX12_begin 145 = .ok (.iload_n 1, 1) := dk_at bX12_begin_133 8 rfl
theorem dX12_begin_146 : decode cX12_begin 146 = .ok (.iconst 0, 1) := dk_at bX12_begin_133 9 rfl
theorem dX12_begin_147 : decode cX12_begin 147 = .ok (.bastore, 1) := dk_at bX12_begin_133 10 rfl
theorem dX12_begin_148 : decode cX12_begin 148 = .ok (.aload_n 0, 1) := dk_at bX12_begin_133 11 rfl
theorem dX12_begin_149 : decode cX12_begin 149 = .ok (.getfield 91, 3) := dk_at bX12_begin_133 12 rfl
theorem dX12_begin_152 : decode cX12_begin 152 = .ok (.iload_n 1, 1) := dk_at bX12_begin_133 13 rfl
theorem dX12_begin_153 : decode cX12_begin 153 = .ok (.iconst 0, 1) := dk_at bX12_begin_133 14 rfl
theorem dX12_begin_154 : decode cX12_begin 154 = .ok (.iastore, 1) := dk_at bX12_begin_133 15 rfl
theorem dX12_begin_155 : decode cX12_begin 155 = .ok (.aload_n 0, 1) := dk_at bX12_begin_133 16 rfl
theorem dX12_begin_156 : decode cX12_begin 156 = .ok (.getfield 94, 3) := dk_at bX12_begin_133 17 rfl
theorem dX12_begin_159 : decode cX12_begin 159 = .ok (.iload_n 1, 1) := dk_at bX12_begin_133 18 rfl
theorem dX12_begin_160 : decode cX12_begin 160 = .ok (.iconst 0, 1) := dk_at bX12_begin_133 19 rfl
theorem dX12_begin_161 : decode cX12_begin 161 = .ok (.iastore, 1) := dk_at bX12_begin_133 20 rfl
theorem dX12_begin_162 : decode cX12_begin 162 = .ok (.aload_n 0, 1) := dk_at bX12_begin_133 21 rfl
theorem dX12_begin_163 : decode cX12_begin 163 = .ok (.getfield 97, 3) := dk_at bX12_begin_133 22 rfl
theorem dX12_begin_166 : decode cX12_begin 166 = .ok (.iload_n 1, 1) := dk_at bX12_begin_133 23 rfl
theorem dX12_begin_167 : decode cX12_begin 167 = .ok (.iconst 0, 1) := dk_at bX12_begin_133 24 rfl
theorem dX12_begin_168 : decode cX12_begin 168 = .ok (.iastore, 1) := dk_at bX12_begin_133 25 rfl
theorem dX12_begin_169 : decode cX12_begin 169 = .ok (.aload_n 0, 1) := dk_at bX12_begin_133 26 rfl
theorem dX12_begin_170 : decode cX12_begin 170 = .ok (.getfield 100, 3) := dk_at bX12_begin_133 27 rfl
theorem dX12_begin_173 : decode cX12_begin 173 = .ok (.iload_n 1, 1) := dk_at bX12_begin_133 28 rfl
theorem dX12_begin_174 : decode cX12_begin 174 = .ok (.iconst 0, 1) := dk_at bX12_begin_133 29 rfl
theorem dX12_begin_175 : decode cX12_begin 175 = .ok (.iastore, 1) := dk_at bX12_begin_133 30 rfl
