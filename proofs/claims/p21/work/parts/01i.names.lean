theorem bX12_plan_66 : dk cX12_plan [(66, .if_icmp .eq 23, 3), (69, .aload_n 0, 1), (70, .iload_n 1, 1), (71, .aload_n 0, 1), (72, .getfield 121, 3), (75, .iload_n 1, 1), (76, .iaload, 1), (77, .aload_n 0, 1), (78, .getfield 124, 3), (81, .iload_n 1, 1), (82, .iaload, 1), (83, .iconst 0, 1), (84, .iconst 0, 1), (85, .iconst 0, 1), (86, .invokevirtual 296, 3), (89, .iinc 1 1, 3), (92, .goto (-56), 3), (95, .aload_n 0, 1), (96, .iconst (-1), 1), (97, .putfield 300, 3), (100, .aload_n 0, 1), (101, .iconst 0, 1), (102, .putfield 303, 3), (105, .aload_n 0, 1), (106, .iconst 0, 1), (107, .invokevirtual 306, 3), (110, .iconst 0, 1), (111, .istore_n 1, 1), (112, .iload_n 1, 1), (113, .aload_n 0, 1), (114, .getfield 289, 3), (117, .if_icmp .ge 16, 3), (120, .aload_n 0, 1), (121, .getfield 145, 3), (124, .iload_n 1, 1), (125, .iconst (-1), 1), (126, .iastore, 1), (127, .iinc 1 1, 3), (130, .goto (-18), 3), (133, .iconst 0, 1)] = true := by decide +kernel
theorem dX12_plan_66 : decode cX12_plan 66 = .ok (.if_icmp .eq 23, 3) := dk_at bX12_plan_66 0 rfl
theorem dX12_plan_69 : decode cX12_plan 69 = .ok (.aload_n 0, 1) := dk_at bX12_plan_66 1 rfl
theorem dX12_plan_70 : decode cX12_plan 70 = .ok (.iload_n 1, 1) := dk_at bX12_plan_66 2 rfl
theorem dX12_plan_71 : decode cX12_plan 71 = .ok (.aload_n 0, 1) := dk_at bX12_plan_66 3 rfl
theorem dX12_plan_72 : decode cX12_plan 72 = .ok (.getfield 121, 3) := dk_at bX12_plan_66 4 rfl
theorem dX12_plan_75 : decode cX12_plan 75 = .ok (.iload_n 1, 1) := dk_at bX12_plan_66 5 rfl
theorem dX12_plan_76 : decode cX12_plan 76 = .ok (.iaload, 1) := dk_at bX12_plan_66 6 rfl
theorem dX12_plan_77 : decode cX12_plan 77 = .ok (.aload_n 0, 1) := dk_at bX12_plan_66 7 rfl
theorem dX12_plan_78 : decode cX12_plan 78 = .ok (.getfield 124, 3) := dk_at bX12_plan_66 8 rfl
theorem dX12_plan_81 : decode cX12_plan 81 = .ok (.iload_n 1, 1) := dk_at bX12_plan_66 9 rfl
theorem dX12_plan_82 : decode cX12_plan 82 = .ok (.iaload, 1) := dk_at bX12_plan_66 10 rfl
theorem dX12_plan_83 : decode cX12_plan 83 = .ok (.iconst 0, 1) := dk_at bX12_plan_66 11 rfl
theorem dX12_plan_84 : decode cX12_plan 84 = .ok (.iconst 0, 1) := dk_at bX12_plan_66 12 rfl
theorem dX12_plan_85 : decode cX12_plan 85 = .ok (.iconst 0, 1) := dk_at bX12_plan_66 13 rfl
theorem dX12_plan_86 : decode cX12_plan 86 = .ok (.invokevirtual 296, 3) := dk_at bX12_plan_66 14 rfl
theorem dX12_plan_89 : decode cX12_plan 89 = .ok (.iinc 1 1, 3) := dk_at bX12_plan_66 15 rfl
theorem dX12_plan_92 : decode cX12_plan 92 = .ok (.goto (-56), 3) := dk_at bX12_plan_66 16 rfl
theorem dX12_plan_95 : decode cX12_plan 95 = .ok (.aload_n 0, 1) := dk_at bX12_plan_66 17 rfl
theorem dX12_plan_96 : decode cX12_plan 96 = .ok (.iconst (-1), 1) := dk_at bX12_plan_66 18 rfl
theorem dX12_plan_97 : decode cX12_plan 97 = .ok (.putfield 300, 3) := dk_at bX12_plan_66 19 rfl
theorem dX12_plan_100 : decode cX12_plan 100 = .ok (.aload_n 0, 1) := dk_at bX12_plan_66 20 rfl
theorem dX12_plan_101 : decode cX12_plan 101 = .ok (.iconst 0, 1) := dk_at bX12_plan_66 21 rfl
theorem dX12_plan_102 : decode cX12_plan 102 = .ok (.putfield 303, 3) := dk_at bX12_plan_66 22 rfl
theorem dX12_plan_105 : decode cX12_plan 105 = .ok (.aload_n 0, 1) := dk_at bX12_plan_66 23 rfl
theorem dX12_plan_106 : decode cX12_plan 106 = .ok (.iconst 0, 1) := dk_at bX12_plan_66 24 rfl
theorem dX12_plan_107 : decode cX12_plan 107 = .ok (.invokevirtual 306, 3) := dk_at bX12_plan_66 25 rfl
theorem dX12_plan_110 : decode cX12_plan 110 = .ok (.iconst 0, 1) := dk_at bX12_plan_66 26 rfl
theorem dX12_plan_111 : decode cX12_plan 111 = .ok (.istore_n 1, 1) := dk_at bX12_plan_66 27 rfl
theorem dX12_plan_112 : decode cX12_plan 112 = .ok (.iload_n 1, 1) := dk_at bX12_plan_66 28 rfl
theorem dX12_plan_113 : decode cX12_plan 113 = .ok (.aload_n 0, 1) := dk_at bX12_plan_66 29 rfl
theorem dX12_plan_114 : decode cX12_plan 114 = .ok (.getfield 289, 3) := dk_at bX12_plan_66 30 rfl
theorem dX12_plan_117 : decode cX12_plan 117 = .ok (.if_icmp .ge 16, 3) := dk_at bX12_plan_66 31 rfl
theorem dX12_plan_120 : decode cX12_plan 120 = .ok (.aload_n 0, 1) := dk_at bX12_plan_66 32 rfl
theorem dX12_plan_121 : decode cX12_plan 121 = .ok (.getfield 145, 3) := dk_at bX12_plan_66 33 rfl
theorem dX12_plan_124 : decode cX12_plan 124 = .ok (.iload_n 1, 1) := dk_at bX12_plan_66 34 rfl
theorem dX12_plan_125 : decode cX12_plan 125 = .ok (.iconst (-1), 1) := dk_at bX12_plan_66 35 rfl
theorem dX12_plan_126 : decode cX12_plan 126 = .ok (.iastore, 1) := dk_at bX12_plan_66 36 rfl
theorem dX12_plan_127 : decode cX12_plan 127 = .ok (.iinc 1 1, 3) := dk_at bX12_plan_66 37 rfl
theorem dX12_plan_130 : decode cX12_plan 130 = .ok (.goto (-18), 3) := dk_at bX12_plan_66 38 rfl
theorem dX12_plan_133 : decode cX12_plan 133 = .ok (.iconst 0, 1) := dk_at bX12_plan_66 39 rfl
theorem bX12_plan_134 : dk cX12_plan [(134, .istore_n 1, 1), (135, .iload_n 1, 1), (136, .iconst 4, 1), (137, .if_icmp .ge 14, 3), (140, .aload_n 0, 1), (141, .iload_n 1, 1), (142, .invokevirtual 310, 3), (145, .iinc 1 1, 3), (148, .goto (-13), 3), (151, .aload_n 0, 1), (152, .iconst 1, 1), (153, .putfield 292, 3), (156, .aload_n 0, 1), (157, .getfield 300, 3), (160, .ireturn, 1)] = true := by decide +kernel
theorem dX12_plan_134 : decode cX12_plan 134 = .ok (.istore_n 1, 1) := dk_at bX12_plan_134 0 rfl
theorem dX12_plan_135 : decode cX12_plan 135 = .ok (.iload_n 1, 1) := dk_at bX12_plan_134 1 rfl
theorem dX12_plan_136 : decode cX12_plan 136 = .ok (.iconst 4, 1) := dk_at bX12_plan_134 2 rfl
theorem dX12_plan_137 : decode cX12_plan 137 = .ok (.if_icmp .ge 14, 3) := dk_at bX12_plan_134 3 rfl
theorem dX12_plan_140 : decode cX12_plan 140 = .ok (.aload_n 0, 1) := dk_at bX12_plan_134 4 rfl
theorem dX12_plan_141 : decode cX12_plan 141 = .ok (.iload_n 1, 1) := dk_at bX12_plan_134 5 rfl
theorem dX12_plan_142 : decode cX12_plan 142 = .ok (.invokevirtual 310, 3) := dk_at bX12_plan_134 6 rfl
theorem dX12_plan_145 : decode cX12_plan 145 = .ok (.iinc 1 1, 3) := dk_at bX12_plan_134 7 rfl
theorem dX12_plan_148 : decode cX12_plan 148 = .ok (.goto (-13), 3) := dk_at bX12_plan_134 8 rfl
theorem dX12_plan_151 : decode cX12_plan 151 = .ok (.aload_n 0, 1) := dk_at bX12_plan_134 9 rfl
theorem dX12_plan_152 : decode cX12_plan 152 = .ok (.iconst 1, 1) := dk_at bX12_plan_134 10 rfl
theorem dX12_plan_153 : decode cX12_plan 153 = .ok (.putfield 292, 3) := dk_at bX12_plan_134 11 rfl
theorem dX12_plan_156 : decode cX12_plan 156 = .ok (.aload_n 0, 1) := dk_at bX12_plan_134 12 rfl
theorem dX12_plan_157 : decode cX12_plan 157 = .ok (.getfield 300, 3) := dk_at bX12_plan_134 13 rfl
theorem dX12_plan_160 : decode cX12_plan 160 = .ok (.ireturn, 1) := dk_at bX12_plan_134 14 rfl
theorem bX12_goes_0 : dk cX12_goes [(0, .iconst 0, 1), (1, .istore_n 2, 1), (2, .iconst 0, 1), (3, .istore_n 3, 1), (4, .iconst 0, 1), (5, .istore 4, 2), (7, .iload 4, 2), (9, .aload_n 0, 1), (10, .getfield 289, 3), (13, .if_icmp .ge 33, 3), (16, .aload_n 0, 1), (17, .getfield 139, 3), (20, .iload 4, 2), (22, .iaload, 1), (23, .iload_n 1, 1), (24, .if_icmp .eq 6, 3), (27, .goto 13, 3), (30, .iload_n 2, 1), (31, .iconst 1, 1), (32, .iload 4, 2), (34, .ishl, 1), (35, .ior, 1), (36, .istore_n 2, 1), (37, .iinc 3 1, 3), (40, .iinc 4 1, 3), (43, .goto (-36), 3), (46, .aload_n 0, 1), (47, .getfield 133, 3), (50, .sipush 128, 3), (53, .iload_n 1, 1), (54, .imul, 1), (55, .iload_n 2, 1), (56, .iadd, 1), (57, .iaload, 1), (58, .istore 4, 2), (60, .aload_n 0, 1), (61, .getfield 121, 3), (64, .iload_n 1, 1), (65, .iaload, 1), (66, .istore 5, 2)] = true := by decide +kernel
theorem dX12_goes_0 : decode cX12_goes 0 = .ok (.iconst 0, 1) := dk_at bX12_goes_0 0 rfl
theorem dX12_goes_1 : decode cX12_goes 1 = .ok (.istore_n 2, 1) := dk_at bX12_goes_0 1 rfl
theorem dX12_goes_2 : decode cX12_goes 2 = .ok (.iconst 0, 1) := dk_at bX12_goes_0 2 rfl
theorem dX12_goes_3 : decode cX12_goes 3 = .ok (.istore_n 3, 1) := dk_at bX12_goes_0 3 rfl
theorem dX12_goes_4 : decode cX12_goes 4 = .ok (.iconst 0, 1) := dk_at bX12_goes_0 4 rfl
theorem dX12_goes_5 : decode cX12_goes 5 = .ok (.istore 4, 2) := dk_at bX12_goes_0 5 rfl
theorem dX12_goes_7 : decode cX12_goes 7 = .ok (.iload 4, 2) := dk_at bX12_goes_0 6 rfl
theorem dX12_goes_9 : decode cX12_goes 9 = .ok (.aload_n 0, 1) := dk_at bX12_goes_0 7 rfl
theorem dX12_goes_10 : decode cX12_goes 10 = .ok (.getfield 289, 3) := dk_at bX12_goes_0 8 rfl
theorem dX12_goes_13 : decode cX12_goes 13 = .ok (.if_icmp .ge 33, 3) := dk_at bX12_goes_0 9 rfl
theorem dX12_goes_16 : decode cX12_goes 16 = .ok (.aload_n 0, 1) := dk_at bX12_goes_0 10 rfl
theorem dX12_goes_17 : decode cX12_goes 17 = .ok (.getfield 139, 3) := dk_at bX12_goes_0 11 rfl
theorem dX12_goes_20 : decode cX12_goes 20 = .ok (.iload 4, 2) := dk_at bX12_goes_0 12 rfl
theorem dX12_goes_22 : decode cX12_goes 22 = .ok (.iaload, 1) := dk_at bX12_goes_0 13 rfl
theorem dX12_goes_23 : decode cX12_goes 23 = .ok (.iload_n 1, 1) := dk_at bX12_goes_0 14 rfl
theorem dX12_goes_24 : decode cX12_goes 24 = .ok (.if_icmp .eq 6, 3) := dk_at bX12_goes_0 15 rfl
theorem dX12_goes_27 : decode cX12_goes 27 = .ok (.goto 13, 3) := dk_at bX12_goes_0 16 rfl
theorem dX12_goes_30 : decode cX12_goes 30 = .ok (.iload_n 2, 1) := dk_at bX12_goes_0 17 rfl
theorem dX12_goes_31 : decode cX12_goes 31 = .ok (.iconst 1, 1) := dk_at bX12_goes_0 18 rfl
theorem dX12_goes_32 : decode cX12_goes 32 = .ok (.iload 4, 2) := dk_at bX12_goes_0 19 rfl
theorem dX12_goes_34 : decode cX12_goes 34 = .ok (.ishl, 1) := dk_at bX12_goes_0 20 rfl
theorem dX12_goes_35 : decode cX12_goes 35 = .ok (.ior, 1) := dk_at bX12_goes_0 21 rfl
theorem dX12_goes_36 : decode cX12_goes 36 = .ok (.istore_n 2, 1) := dk_at bX12_goes_0 22 rfl
theorem dX12_goes_37 : decode cX12_goes 37 = .ok (.iinc 3 1, 3) := dk_at bX12_goes_0 23 rfl
theorem dX12_goes_40 : decode cX12_goes 40 = .ok (.iinc 4 1, 3) := dk_at bX12_goes_0 24 rfl
theorem dX12_goes_43 : decode cX12_goes 43 = .ok (.goto (-36), 3) := dk_at bX12_goes_0 25 rfl
theorem dX12_goes_46 : decode cX12_goes 46 = .ok (.aload_n 0, 1) := dk_at bX12_goes_0 26 rfl
theorem dX12_goes_47 : decode cX12_goes 47 = .ok (.getfield 133, 3) := dk_at bX12_goes_0 27 rfl
theorem dX12_goes_50 : decode cX12_goes 50 = .ok (.sipush 128, 3) := dk_at bX12_goes_0 28 rfl
theorem dX12_goes_53 : decode cX12_goes 53 = .ok (.iload_n 1, 1) := dk_at bX12_goes_0 29 rfl
theorem dX12_goes_54 : decode cX12_goes 54 = .ok (.imul, 1) := dk_at bX12_goes_0 30 rfl
theorem dX12_goes_55 : decode cX12_goes 55 = .ok (.iload_n 2, 1) := dk_at bX12_goes_0 31 rfl
theorem dX12_goes_56 : decode cX12_goes 56 = .ok (.iadd, 1) := dk_at bX12_goes_0 32 rfl
theorem dX12_goes_57 : decode cX12_goes 57 = .ok (.iaload, 1) := dk_at bX12_goes_0 33 rfl
theorem dX12_goes_58 : decode cX12_goes 58 = .ok (.istore 4, 2) := dk_at bX12_goes_0 34 rfl
theorem dX12_goes_60 : decode cX12_goes 60 = .ok (.aload_n 0, 1) := dk_at bX12_goes_0 35 rfl
theorem dX12_goes_61 : decode cX12_goes 61 = .ok (.getfield 121, 3) := dk_at bX12_goes_0 36 rfl
theorem dX12_goes_64 : decode cX12_goes 64 = .ok (.iload_n 1, 1) := dk_at bX12_goes_0 37 rfl
theorem dX12_goes_65 : decode cX12_goes 65 = .ok (.iaload, 1) := dk_at bX12_goes_0 38 rfl
theorem dX12_goes_66 : decode cX12_goes 66 = .ok (.istore 5, 2) := dk_at bX12_goes_0 39 rfl
theorem bX12_goes_68 : dk cX12_goes [(68, .aload_n 0, 1), (69, .getfield 124, 3), (72, .iload_n 1, 1), (73, .iaload, 1), (74, .istore 6, 2), (76, .iload_n 3, 1), (77, .iconst 1, 1), (78, .isub, 1), (79, .istore 7, 2), (81, .iload 7, 2), (83, .ifCond .lt 100, 3), (86, .iload 4, 2), (88, .iconst 3, 1), (89, .iload 7, 2), (91, .imul, 1), (92, .ishr, 1), (93, .bipush 7, 2), (95, .iand, 1), (96, .istore 8, 2), (98, .iload 6, 2), (100, .iload 5, 2), (102, .aload_n 0, 1), (103, .getfield 106, 3), (106, .iload 8, 2), (108, .iaload, 1), (109, .if_icmp .ne 7, 3), (112, .iconst 0, 1), (113, .goto 4, 3), (116, .iconst 1, 1), (117, .iadd, 1), (118, .istore 9, 2), (120, .aload_n 0, 1), (121, .getfield 145, 3), (124, .iload 8, 2), (126, .iload 9, 2), (128, .aload_n 0, 1), (129, .getfield 115, 3), (132, .iload 8, 2), (134, .iaload, 1), (135, .if_icmp .le 8, 3)] = true := by decide +kernel
theorem dX12_goes_68 : decode cX12_goes 68 = .ok (.aload_n 0, 1) := dk_at bX12_goes_68 0 rfl
theorem dX12_goes_69 : decode cX12_goes 69 = .ok (.getfield 124, 3) := dk_at bX12_goes_68 1 rfl
theorem dX12_goes_72 : decode cX12_goes 72 = .ok (.iload_n 1, 1) := dk_at bX12_goes_68 2 rfl
theorem dX12_goes_73 : decode cX12_goes 73 = .ok (.iaload, 1) := dk_at bX12_goes_68 3 rfl
theorem dX12_goes_74 : decode cX12_goes 74 = .ok (.istore 6, 2) := dk_at bX12_goes_68 4 rfl
theorem dX12_goes_76 : decode cX12_goes 76 = .ok (.iload_n 3, 1) := dk_at bX12_goes_68 5 rfl
theorem dX12_goes_77 : decode cX12_goes 77 = .ok (.iconst 1, 1) := dk_at bX12_goes_68 6 rfl
theorem dX12_goes_78 : decode cX12_goes 78 = .ok (.isub, 1) := dk_at bX12_goes_68 7 rfl
theorem dX12_goes_79 : decode cX12_goes 79 = .ok (.istore 7, 2) := dk_at bX12_goes_68 8 rfl
theorem dX12_goes_81 : decode cX12_goes 81 = .ok (.iload 7, 2) := dk_at bX12_goes_68 9 rfl
theorem dX12_goes_83 : decode cX12_goes 83 = .ok (.ifCond .lt 100, 3) := dk_at bX12_goes_68 10 rfl
theorem dX12_goes_86 : decode cX12_goes 86 = .ok (.iload 4, 2) := dk_at bX12_goes_68 11 rfl
theorem dX12_goes_88 : decode cX12_goes 88 = .ok (.iconst 3, 1) := dk_at bX12_goes_68 12 rfl
theorem dX12_goes_89 : decode cX12_goes 89 = .ok (.iload 7, 2) := dk_at bX12_goes_68 13 rfl
theorem dX12_goes_91 : decode cX12_goes 91 = .ok (.imul, 1) := dk_at bX12_goes_68 14 rfl
theorem dX12_goes_92 : decode cX12_goes 92 = .ok (.ishr, 1) := dk_at bX12_goes_68 15 rfl
theorem dX12_goes_93 : decode cX12_goes 93 = .ok (.bipush 7, 2) := dk_at bX12_goes_68 16 rfl
theorem dX12_goes_95 : decode cX12_goes 95 = .ok (.iand, 1) := dk_at bX12_goes_68 17 rfl
theorem dX12_goes_96 : decode cX12_goes 96 = .ok (.istore 8, 2) := dk_at bX12_goes_68 18 rfl
theorem dX12_goes_98 : decode cX12_goes 98 = .ok (.iload 6, 2) := dk_at bX12_goes_68 19 rfl
theorem dX12_goes_100 : decode cX12_goes 100 = .ok (.iload 5, 2) := dk_at bX12_goes_68 20 rfl
theorem dX12_goes_102 : decode cX12_goes 102 = .ok (.aload_n 0, 1) := dk_at bX12_goes_68 21 rfl
theorem dX12_goes_103 : decode cX12_goes 103 = .ok (.getfield 106, 3) := dk_at bX12_goes_68 22 rfl
theorem dX12_goes_106 : decode cX12_goes 106 = .ok (.iload 8, 2) := dk_at bX12_goes_68 23 rfl
theorem dX12_goes_108 : decode cX12_goes 108 = .ok (.iaload, 1) := dk_at bX12_goes_68 24 rfl
theorem dX12_goes_109 : decode cX12_goes 109 = .ok (.if_icmp .ne 7, 3) := dk_at bX12_goes_68 25 rfl
theorem dX12_goes_112 : decode cX12_goes 112 = .ok (.iconst 0, 1) := dk_at bX12_goes_68 26 rfl
theorem dX12_goes_113 : decode cX12_goes 113 = .ok (.goto 4, 3) := dk_at bX12_goes_68 27 rfl
theorem dX12_goes_116 : decode cX12_goes 116 = .ok (.iconst 1, 1) := dk_at bX12_goes_68 28 rfl
theorem dX12_goes_117 : decode cX12_goes 117 = .ok (.iadd, 1) := dk_at bX12_goes_68 29 rfl
theorem dX12_goes_118 : decode cX12_goes 118 = .ok (.istore 9, 2) := dk_at bX12_goes_68 30 rfl
theorem dX12_goes_120 : decode cX12_goes 120 = .ok (.aload_n 0, 1) := dk_at bX12_goes_68 31 rfl
theorem dX12_goes_121 : decode cX12_goes 121 = .ok (.getfield 145, 3) := dk_at bX12_goes_68 32 rfl
theorem dX12_goes_124 : decode cX12_goes 124 = .ok (.iload 8, 2) := dk_at bX12_goes_68 33 rfl
theorem dX12_goes_126 : decode cX12_goes 126 = .ok (.iload 9, 2) := dk_at bX12_goes_68 34 rfl
theorem dX12_goes_128 : decode cX12_goes 128 = .ok (.aload_n 0, 1) := dk_at bX12_goes_68 35 rfl
theorem dX12_goes_129 : decode cX12_goes 129 = .ok (.getfield 115, 3) := dk_at bX12_goes_68 36 rfl
theorem dX12_goes_132 : decode cX12_goes 132 = .ok (.iload 8, 2) := dk_at bX12_goes_68 37 rfl
theorem dX12_goes_134 : decode cX12_goes 134 = .ok (.iaload, 1) := dk_at bX12_goes_68 38 rfl
theorem dX12_goes_135 : decode cX12_goes 135 = .ok (.if_icmp .le 8, 3) := dk_at bX12_goes_68 39 rfl
theorem bX12_goes_138 : dk cX12_goes [(138, .iload 9, 2), (140, .goto 10, 3), (143, .aload_n 0, 1), (144, .getfield 115, 3), (147, .iload 8, 2), (149, .iaload, 1), (150, .iastore, 1), (151, .aload_n 0, 1), (152, .getfield 145, 3), (155, .iload 8, 2), (157, .iaload, 1), (158, .aload_n 0, 1), (159, .getfield 112, 3), (162, .iload 8, 2), (164, .iaload, 1), (165, .iadd, 1), (166, .istore 6, 2), (168, .aload_n 0, 1), (169, .getfield 109, 3), (172, .iload 8, 2), (174, .iaload, 1), (175, .istore 5, 2), (177, .iinc 7 (-1), 3), (180, .goto (-99), 3), (183, .return_, 1)] = true := by decide +kernel
theorem dX12_goes_138 : decode cX12_goes 138 = .ok (.iload 9, 2) := dk_at bX12_goes_138 0 rfl
theorem dX12_goes_140 : decode cX12_goes 140 = .ok (.goto 10, 3) := dk_at bX12_goes_138 1 rfl
theorem dX12_goes_143 : decode cX12_goes 143 = .ok (.aload_n 0, 1) := dk_at bX12_goes_138 2 rfl
theorem dX12_goes_144 : decode cX12_goes 144 = .ok (.getfield 115, 3) := dk_at bX12_goes_138 3 rfl
theorem dX12_goes_147 : decode cX12_goes 147 = .ok (.iload 8, 2) := dk_at bX12_goes_138 4 rfl
theorem dX12_goes_149 : decode cX12_goes 149 = .ok (.iaload, 1) := dk_at bX12_goes_138 5 rfl
theorem dX12_goes_150 : decode cX12_goes 150 = .ok (.iastore, 1) := dk_at bX12_goes_138 6 rfl
theorem dX12_goes_151 : decode cX12_goes 151 = .ok (.aload_n 0, 1) := dk_at bX12_goes_138 7 rfl
theorem dX12_goes_152 : decode cX12_goes 152 = .ok (.getfield 145, 3) := dk_at bX12_goes_138 8 rfl
theorem dX12_goes_155 : decode cX12_goes 155 = .ok (.iload 8, 2) := dk_at bX12_goes_138 9 rfl
theorem dX12_goes_157 : decode cX12_goes 157 = .ok (.iaload, 1) := dk_at bX12_goes_138 10 rfl
theorem dX12_goes_158 : decode cX12_goes 158 = .ok (.aload_n 0, 1) := dk_at bX12_goes_138 11 rfl
theorem dX12_goes_159 : decode cX12_goes 159 = .ok (.getfield 112, 3) := dk_at bX12_goes_138 12 rfl
theorem dX12_goes_162 : decode cX12_goes 162 = .ok (.iload 8, 2) := dk_at bX12_goes_138 13 rfl
theorem dX12_goes_164 : decode cX12_goes 164 = .ok (.iaload, 1) := dk_at bX12_goes_138 14 rfl
theorem dX12_goes_165 : decode cX12_goes 165 = .ok (.iadd, 1) := dk_at bX12_goes_138 15 rfl
theorem dX12_goes_166 : decode cX12_goes 166 = .ok (.istore 6, 2) := dk_at bX12_goes_138 16 rfl
theorem dX12_goes_168 : decode cX12_goes 168 = .ok (.aload_n 0, 1) := dk_at bX12_goes_138 17 rfl
theorem dX12_goes_169 : decode cX12_goes 169 = .ok (.getfield 109, 3) := dk_at bX12_goes_138 18 rfl
theorem dX12_goes_172 : decode cX12_goes 172 = .ok (.iload 8, 2) := dk_at bX12_goes_138 19 rfl
theorem dX12_goes_174 : decode cX12_goes 174 = .ok (.iaload, 1) := dk_at bX12_goes_138 20 rfl
theorem dX12_goes_175 : decode cX12_goes 175 = .ok (.istore 5, 2) := dk_at bX12_goes_138 21 rfl
theorem dX12_goes_177 : decode cX12_goes 177 = .ok (.iinc 7 (-1), 3) := dk_at bX12_goes_138 22 rfl
theorem dX12_goes_180 : decode cX12_goes 180 = .ok (.goto (-99), 3) := dk_at bX12_goes_138 23 rfl
theorem dX12_goes_183 : decode cX12_goes 183 = .ok (.return_, 1) := dk_at bX12_goes_138 24 rfl
set_option maxRecDepth 20000 in
theorem ggX12_planned_X12_in : GoodIn wsX12_planned wsX12_in := goodIn_r _ [9] rfl (by decide +kernel)
set_option maxRecDepth 20000 in
theorem gX12_planned_X12_in : GoodIn wsX12_planned (va_wsS RX12 148 yX12_in wsX12_in) := goodIn_app (goodIn_r _ [6, 7, 8] rfl (by decide +kernel)) ggX12_planned_X12_in
theorem bX12_planned_0 : dk cX12_planned [(0, .aload_n 0, 1), (1, .getfield 292, 3), (4, .ifCond .ne 6, 3), (7, .bipush (-9), 2), (9, .ireturn, 1), (10, .iload_n 1, 1), (11, .ifCond .ne 8, 3), (14, .aload_n 0, 1), (15, .getfield 303, 3), (18, .ireturn, 1), (19, .iload_n 1, 1), (20, .bipush 10, 2), (22, .bipush 9, 2), (24, .aload_n 0, 1), (25, .getfield 289, 3), (28, .iadd, 1), (29, .invokestatic 148, 3), (32, .ifCond .eq 13, 3), (35, .aload_n 0, 1), (36, .getfield 139, 3), (39, .iload_n 1, 1), (40, .bipush 10, 2), (42, .isub, 1), (43, .iaload, 1), (44, .ireturn, 1), (45, .iload_n 1, 1), (46, .bipush 20, 2), (48, .bipush 19, 2), (50, .aload_n 0, 1), (51, .getfield 289, 3), (54, .iadd, 1), (55, .invokestatic 148, 3), (58, .ifCond .eq 15, 3), (61, .aload_n 0, 1), (62, .getfield 145, 3), (65, .iload_n 1, 1), (66, .bipush 20, 2), (68, .isub, 1), (69, .iaload, 1), (70, .goto 5, 3)] = true := by decide +kernel
theorem dX12_planned_0 : decode cX12_planned 0 = .ok (.aload_n 0, 1) := dk_at bX12_planned_0 0 rfl
theorem dX12_planned_1 : decode cX12_planned 1 = .ok (.getfield 292, 3) := dk_at bX12_planned_0 1 rfl
theorem dX12_planned_4 : decode cX12_planned 4 = .ok (.ifCond .ne 6, 3) := dk_at bX12_planned_0 2 rfl
theorem dX12_planned_7 : decode cX12_planned 7 = .ok (.bipush (-9), 2) := dk_at bX12_planned_0 3 rfl
theorem dX12_planned_9 : decode cX12_planned 9 = .ok (.ireturn, 1) := dk_at bX12_planned_0 4 rfl
theorem dX12_planned_10 : decode cX12_planned 10 = .ok (.iload_n 1, 1) := dk_at bX12_planned_0 5 rfl
theorem dX12_planned_11 : decode cX12_planned 11 = .ok (.ifCond .ne 8, 3) := dk_at bX12_planned_0 6 rfl
theorem dX12_planned_14 : decode cX12_planned 14 = .ok (.aload_n 0, 1) := dk_at bX12_planned_0 7 rfl
theorem dX12_planned_15 : decode cX12_planned 15 = .ok (.getfield 303, 3) := dk_at bX12_planned_0 8 rfl
theorem dX12_planned_18 : decode cX12_planned 18 = .ok (.ireturn, 1) := dk_at bX12_planned_0 9 rfl
theorem dX12_planned_19 : decode cX12_planned 19 = .ok (.iload_n 1, 1) := dk_at bX12_planned_0 10 rfl
theorem dX12_planned_20 : decode cX12_planned 20 = .ok (.bipush 10, 2) := dk_at bX12_planned_0 11 rfl
theorem dX12_planned_22 : decode cX12_planned 22 = .ok (.bipush 9, 2) := dk_at bX12_planned_0 12 rfl
theorem dX12_planned_24 : decode cX12_planned 24 = .ok (.aload_n 0, 1) := dk_at bX12_planned_0 13 rfl
theorem dX12_planned_25 : decode cX12_planned 25 = .ok (.getfield 289, 3) := dk_at bX12_planned_0 14 rfl
theorem dX12_planned_28 : decode cX12_planned 28 = .ok (.iadd, 1) := dk_at bX12_planned_0 15 rfl
theorem dX12_planned_29 : decode cX12_planned 29 = .ok (.invokestatic 148, 3) := dk_at bX12_planned_0 16 rfl
theorem dX12_planned_32 : decode cX12_planned 32 = .ok (.ifCond .eq 13, 3) := dk_at bX12_planned_0 17 rfl
theorem dX12_planned_35 : decode cX12_planned 35 = .ok (.aload_n 0, 1) := dk_at bX12_planned_0 18 rfl
theorem dX12_planned_36 : decode cX12_planned 36 = .ok (.getfield 139, 3) := dk_at bX12_planned_0 19 rfl
theorem dX12_planned_39 : decode cX12_planned 39 = .ok (.iload_n 1, 1) := dk_at bX12_planned_0 20 rfl
theorem dX12_planned_40 : decode cX12_planned 40 = .ok (.bipush 10, 2) := dk_at bX12_planned_0 21 rfl
theorem dX12_planned_42 : decode cX12_planned 42 = .ok (.isub, 1) := dk_at bX12_planned_0 22 rfl
theorem dX12_planned_43 : decode cX12_planned 43 = .ok (.iaload, 1) := dk_at bX12_planned_0 23 rfl
theorem dX12_planned_44 : decode cX12_planned 44 = .ok (.ireturn, 1) := dk_at bX12_planned_0 24 rfl
theorem dX12_planned_45 : decode cX12_planned 45 = .ok (.iload_n 1, 1) := dk_at bX12_planned_0 25 rfl
theorem dX12_planned_46 : decode cX12_planned 46 = .ok (.bipush 20, 2) := dk_at bX12_planned_0 26 rfl
theorem dX12_planned_48 : decode cX12_planned 48 = .ok (.bipush 19, 2) := dk_at bX12_planned_0 27 rfl
theorem dX12_planned_50 : decode cX12_planned 50 = .ok (.aload_n 0, 1) := dk_at bX12_planned_0 28 rfl
theorem dX12_planned_51 : decode cX12_planned 51 = .ok (.getfield 289, 3) := dk_at bX12_planned_0 29 rfl
theorem dX12_planned_54 : decode cX12_planned 54 = .ok (.iadd, 1) := dk_at bX12_planned_0 30 rfl
theorem dX12_planned_55 : decode cX12_planned 55 = .ok (.invokestatic 148, 3) := dk_at bX12_planned_0 31 rfl
theorem dX12_planned_58 : decode cX12_planned 58 = .ok (.ifCond .eq 15, 3) := dk_at bX12_planned_0 32 rfl
theorem dX12_planned_61 : decode cX12_planned 61 = .ok (.aload_n 0, 1) := dk_at bX12_planned_0 33 rfl
theorem dX12_planned_62 : decode cX12_planned 62 = .ok (.getfield 145, 3) := dk_at bX12_planned_0 34 rfl
theorem dX12_planned_65 : decode cX12_planned 65 = .ok (.iload_n 1, 1) := dk_at bX12_planned_0 35 rfl
theorem dX12_planned_66 : decode cX12_planned 66 = .ok (.bipush 20, 2) := dk_at bX12_planned_0 36 rfl
theorem dX12_planned_68 : decode cX12_planned 68 = .ok (.isub, 1) := dk_at bX12_planned_0 37 rfl
theorem dX12_planned_69 : decode cX12_planned 69 = .ok (.iaload, 1) := dk_at bX12_planned_0 38 rfl
theorem dX12_planned_70 : decode cX12_planned 70 = .ok (.goto 5, 3) := dk_at bX12_planned_0 39 rfl
theorem bX12_planned_73 : dk cX12_planned [(73, .bipush (-9), 2), (75, .ireturn, 1)] = true := by decide +kernel
theorem dX12_planned_73 : decode cX12_planned 73 = .ok (.bipush (-9), 2) := dk_at bX12_planned_73 0 rfl
theorem dX12_planned_75 : decode cX12_planned 75 = .ok (.ireturn, 1) := dk_at bX12_planned_73 1 rfl
set_option maxRecDepth 20000 in
theorem ggX12_count_X12_in : GoodIn wsX12_count wsX12_in := goodIn_r _ [11] rfl (by decide +kernel)
set_option maxRecDepth 20000 in
theorem gX12_count_X12_in : GoodIn wsX12_count (va_wsS RX12 148 yX12_in wsX12_in) := goodIn_app (goodIn_r _ [8, 9, 10] rfl (by decide +kernel)) ggX12_count_X12_in
theorem bX12_count_0 : dk cX12_count [(0, .iconst 0, 1), (1, .istore_n 2, 1), (2, .iload_n 1, 1), (3, .tableswitch 77 0 3 #[29, 34, 39, 72], 29), (32, .aload_n 0, 1), (33, .getfield 280, 3), (36, .ireturn, 1), (37, .aload_n 0, 1), (38, .getfield 289, 3), (41, .ireturn, 1), (42, .iconst 0, 1), (43, .istore_n 3, 1), (44, .iload_n 3, 1), (45, .iconst 4, 1), (46, .if_icmp .ge 27, 3), (49, .iload_n 2, 1), (50, .aload_n 0, 1), (51, .getfield 121, 3), (54, .iload_n 3, 1), (55, .iaload, 1), (56, .iconst (-1), 1), (57, .if_icmp .eq 7, 3), (60, .iconst 1, 1), (61, .goto 4, 3), (64, .iconst 0, 1), (65, .iadd, 1), (66, .istore_n 2, 1), (67, .iinc 3 1, 3), (70, .goto (-26), 3), (73, .iload_n 2, 1), (74, .ireturn, 1), (75, .aload_n 0, 1), (76, .getfield 152, 3), (79, .ireturn, 1), (80, .iload_n 1, 1), (81, .bipush 10, 2), (83, .bipush 15, 2), (85, .invokestatic 148, 3), (88, .ifCond .eq 13, 3), (91, .aload_n 0, 1)] = true := by decide +kernel
theorem dX12_count_0 : decode cX12_count 0 = .ok (.iconst 0, 1) := dk_at bX12_count_0 0 rfl
theorem dX12_count_1 : decode cX12_count 1 = .ok (.istore_n 2, 1) := dk_at bX12_count_0 1 rfl
theorem dX12_count_2 : decode cX12_count 2 = .ok (.iload_n 1, 1) := dk_at bX12_count_0 2 rfl
theorem dX12_count_3 : decode cX12_count 3 = .ok (.tableswitch 77 0 3 #[29, 34, 39, 72], 29) := dk_at bX12_count_0 3 rfl
theorem dX12_count_32 : decode cX12_count 32 = .ok (.aload_n 0, 1) := dk_at bX12_count_0 4 rfl
theorem dX12_count_33 : decode cX12_count 33 = .ok (.getfield 280, 3) := dk_at bX12_count_0 5 rfl
theorem dX12_count_36 : decode cX12_count 36 = .ok (.ireturn, 1) := dk_at bX12_count_0 6 rfl
theorem dX12_count_37 : decode cX12_count 37 = .ok (.aload_n 0, 1) := dk_at bX12_count_0 7 rfl
theorem dX12_count_38 : decode cX12_count 38 = .ok (.getfield 289, 3) := dk_at bX12_count_0 8 rfl
theorem dX12_count_41 : decode cX12_count 41 = .ok (.ireturn, 1) := dk_at bX12_count_0 9 rfl
theorem dX12_count_42 : decode cX12_count 42 = .ok (.iconst 0, 1) := dk_at bX12_count_0 10 rfl
theorem dX12_count_43 : decode cX12_count 43 = .ok (.istore_n 3, 1) := dk_at bX12_count_0 11 rfl
theorem dX12_count_44 : decode cX12_count 44 = .ok (.iload_n 3, 1) := dk_at bX12_count_0 12 rfl
theorem dX12_count_45 : decode cX12_count 45 = .ok (.iconst 4, 1) := dk_at bX12_count_0 13 rfl
theorem dX12_count_46 : decode cX12_count 46 = .ok (.if_icmp .ge 27, 3) := dk_at bX12_count_0 14 rfl
theorem dX12_count_49 : decode cX12_count 49 = .ok (.iload_n 2, 1) := dk_at bX12_count_0 15 rfl
theorem dX12_count_50 : decode cX12_count 50 = .ok (.aload_n 0, 1) := dk_at bX12_count_0 16 rfl
theorem dX12_count_51 : decode cX12_count 51 = .ok (.getfield 121, 3) := dk_at bX12_count_0 17 rfl
theorem dX12_count_54 : decode cX12_count 54 = .ok (.iload_n 3, 1) := dk_at bX12_count_0 18 rfl
theorem dX12_count_55 : decode cX12_count 55 = .ok (.iaload, 1) := dk_at bX12_count_0 19 rfl
theorem dX12_count_56 : decode cX12_count 56 = .ok (.iconst (-1), 1) := dk_at bX12_count_0 20 rfl
theorem dX12_count_57 : decode cX12_count 57 = .ok (.if_icmp .eq 7, 3) := dk_at bX12_count_0 21 rfl
theorem dX12_count_60 : decode cX12_count 60 = .ok (.iconst 1, 1) := dk_at bX12_count_0 22 rfl
theorem dX12_count_61 : decode cX12_count 61 = .ok (.goto 4, 3) := dk_at bX12_count_0 23 rfl
theorem dX12_count_64 : decode cX12_count 64 = .ok (.iconst 0, 1) := dk_at bX12_count_0 24 rfl
theorem dX12_count_65 : decode cX12_count 65 = .ok (.iadd, 1) := dk_at bX12_count_0 25 rfl
theorem dX12_count_66 : decode cX12_count 66 = .ok (.istore_n 2, 1) := dk_at bX12_count_0 26 rfl
theorem dX12_count_67 : decode cX12_count 67 = .ok (.iinc 3 1, 3) := dk_at bX12_count_0 27 rfl
theorem dX12_count_70 : decode cX12_count 70 = .ok (.goto (-26), 3) := dk_at bX12_count_0 28 rfl
theorem dX12_count_73 : decode cX12_count 73 = .ok (.iload_n 2, 1) := dk_at bX12_count_0 29 rfl
theorem dX12_count_74 : decode cX12_count 74 = .ok (.ireturn, 1) := dk_at bX12_count_0 30 rfl
theorem dX12_count_75 : decode cX12_count 75 = .ok (.aload_n 0, 1) := dk_at bX12_count_0 31 rfl
theorem dX12_count_76 : decode cX12_count 76 = .ok (.getfield 152, 3) := dk_at bX12_count_0 32 rfl
theorem dX12_count_79 : decode cX12_count 79 = .ok (.ireturn, 1) := dk_at bX12_count_0 33 rfl
theorem dX12_count_80 : decode cX12_count 80 = .ok (.iload_n 1, 1) := dk_at bX12_count_0 34 rfl
theorem dX12_count_81 : decode cX12_count 81 = .ok (.bipush 10, 2) := dk_at bX12_count_0 35 rfl
theorem dX12_count_83 : decode cX12_count 83 = .ok (.bipush 15, 2) := dk_at bX12_count_0 36 rfl
theorem dX12_count_85 : decode cX12_count 85 = .ok (.invokestatic 148, 3) := dk_at bX12_count_0 37 rfl
theorem dX12_count_88 : decode cX12_count 88 = .ok (.ifCond .eq 13, 3) := dk_at bX12_count_0 38 rfl
theorem dX12_count_91 : decode cX12_count 91 = .ok (.aload_n 0, 1) := dk_at bX12_count_0 39 rfl
theorem bX12_count_92 : dk cX12_count [(92, .getfield 21, 3), (95, .iload_n 1, 1), (96, .bipush 10, 2), (98, .isub, 1), (99, .iaload, 1), (100, .ireturn, 1), (101, .iload_n 1, 1), (102, .bipush 20, 2), (104, .bipush 25, 2), (106, .invokestatic 148, 3), (109, .ifCond .eq 13, 3), (112, .aload_n 0, 1), (113, .getfield 27, 3), (116, .iload_n 1, 1), (117, .bipush 20, 2), (119, .isub, 1), (120, .iaload, 1), (121, .ireturn, 1), (122, .iload_n 1, 1), (123, .bipush 30, 2), (125, .bipush 39, 2), (127, .invokestatic 148, 3), (130, .ifCond .eq 15, 3), (133, .aload_n 0, 1), (134, .getfield 42, 3), (137, .iload_n 1, 1), (138, .bipush 30, 2), (140, .isub, 1), (141, .iaload, 1), (142, .goto 4, 3), (145, .iconst (-1), 1), (146, .ireturn, 1)] = true := by decide +kernel
theorem dX12_count_92 : decode cX12_count 92 = .ok (.getfield 21, 3) := dk_at bX12_count_92 0 rfl
theorem dX12_count_95 : decode cX12_count 95 = .ok (.iload_n 1, 1) := dk_at bX12_count_92 1 rfl
theorem dX12_count_96 : decode cX12_count 96 = .ok (.bipush 10, 2) := dk_at bX12_count_92 2 rfl
theorem dX12_count_98 : decode cX12_count 98 = .ok (.isub, 1) := dk_at bX12_count_92 3 rfl
theorem dX12_count_99 : decode cX12_count 99 = .ok (.iaload, 1) := dk_at bX12_count_92 4 rfl
theorem dX12_count_100 : decode cX12_count 100 = .ok (.ireturn, 1) := dk_at bX12_count_92 5 rfl
theorem dX12_count_101 : decode cX12_count 101 = .ok (.iload_n 1, 1) := dk_at bX12_count_92 6 rfl
theorem dX12_count_102 : decode cX12_count 102 = .ok (.bipush 20, 2) := dk_at bX12_count_92 7 rfl
theorem dX12_count_104 : decode cX12_count 104 = .ok (.bipush 25, 2) := dk_at bX12_count_92 8 rfl
theorem dX12_count_106 : decode cX12_count 106 = .ok (.invokestatic 148, 3) := dk_at bX12_count_92 9 rfl
theorem dX12_count_109 : decode cX12_count 109 = .ok (.ifCond .eq 13, 3) := dk_at bX12_count_92 10 rfl
theorem dX12_count_112 : decode cX12_count 112 = .ok (.aload_n 0, 1) := dk_at bX12_count_92 11 rfl
theorem dX12_count_113 : decode cX12_count 113 = .ok (.getfield 27, 3) := dk_at bX12_count_92 12 rfl
theorem dX12_count_116 : decode cX12_count 116 = .ok (.iload_n 1, 1) := dk_at bX12_count_92 13 rfl
theorem dX12_count_117 : decode cX12_count 117 = .ok (.bipush 20, 2) := dk_at bX12_count_92 14 rfl
theorem dX12_count_119 : decode cX12_count 119 = .ok (.isub, 1) := dk_at bX12_count_92 15 rfl
theorem dX12_count_120 : decode cX12_count 120 = .ok (.iaload, 1) := dk_at bX12_count_92 16 rfl
theorem dX12_count_121 : decode cX12_count 121 = .ok (.ireturn, 1) := dk_at bX12_count_92 17 rfl
theorem dX12_count_122 : decode cX12_count 122 = .ok (.iload_n 1, 1) := dk_at bX12_count_92 18 rfl
theorem dX12_count_123 : decode cX12_count 123 = .ok (.bipush 30, 2) := dk_at bX12_count_92 19 rfl
theorem dX12_count_125 : decode cX12_count 125 = .ok (.bipush 39, 2) := dk_at bX12_count_92 20 rfl
theorem dX12_count_127 : decode cX12_count 127 = .ok (.invokestatic 148, 3) := dk_at bX12_count_92 21 rfl
theorem dX12_count_130 : decode cX12_count 130 = .ok (.ifCond .eq 15, 3) := dk_at bX12_count_92 22 rfl
theorem dX12_count_133 : decode cX12_count 133 = .ok (.aload_n 0, 1) := dk_at bX12_count_92 23 rfl
theorem dX12_count_134 : decode cX12_count 134 = .ok (.getfield 42, 3) := dk_at bX12_count_92 24 rfl
theorem dX12_count_137 : decode cX12_count 137 = .ok (.iload_n 1, 1) := dk_at bX12_count_92 25 rfl
theorem dX12_count_138 : decode cX12_count 138 = .ok (.bipush 30, 2) := dk_at bX12_count_92 26 rfl
theorem dX12_count_140 : decode cX12_count 140 = .ok (.isub, 1) := dk_at bX12_count_92 27 rfl
theorem dX12_count_141 : decode cX12_count 141 = .ok (.iaload, 1) := dk_at bX12_count_92 28 rfl
theorem dX12_count_142 : decode cX12_count 142 = .ok (.goto 4, 3) := dk_at bX12_count_92 29 rfl
theorem dX12_count_145 : decode cX12_count 145 = .ok (.iconst (-1), 1) := dk_at bX12_count_92 30 rfl
theorem dX12_count_146 : decode cX12_count 146 = .ok (.ireturn, 1) := dk_at bX12_count_92 31 rfl
theorem bJ6_compare_7cf53_0 : dk cJ6_compare_7cf53 [(0, .iload_n 0, 1), (1, .iload_n 1, 1), (2, .if_icmp .ge 7, 3), (5, .iconst (-1), 1), (6, .goto 13, 3), (9, .iload_n 0, 1), (10, .iload_n 1, 1), (11, .if_icmp .ne 7, 3), (14, .iconst 0, 1), (15, .goto 4, 3), (18, .iconst 1, 1), (19, .ireturn, 1)] = true := by decide +kernel
theorem dJ6_compare_7cf53_0 : decode cJ6_compare_7cf53 0 = .ok (.iload_n 0, 1) := dk_at bJ6_compare_7cf53_0 0 rfl
theorem dJ6_compare_7cf53_1 : decode cJ6_compare_7cf53 1 = .ok (.iload_n 1, 1) := dk_at bJ6_compare_7cf53_0 1 rfl
theorem dJ6_compare_7cf53_2 : decode cJ6_compare_7cf53 2 = .ok (.if_icmp .ge 7, 3) := dk_at bJ6_compare_7cf53_0 2 rfl
theorem dJ6_compare_7cf53_5 : decode cJ6_compare_7cf53 5 = .ok (.iconst (-1), 1) := dk_at bJ6_compare_7cf53_0 3 rfl
theorem dJ6_compare_7cf53_6 : decode cJ6_compare_7cf53 6 = .ok (.goto 13, 3) := dk_at bJ6_compare_7cf53_0 4 rfl
theorem dJ6_compare_7cf53_9 : decode cJ6_compare_7cf53 9 = .ok (.iload_n 0, 1) := dk_at bJ6_compare_7cf53_0 5 rfl
theorem dJ6_compare_7cf53_10 : decode cJ6_compare_7cf53 10 = .ok (.iload_n 1, 1) := dk_at bJ6_compare_7cf53_0 6 rfl
theorem dJ6_compare_7cf53_11 : decode cJ6_compare_7cf53 11 = .ok (.if_icmp .ne 7, 3) := dk_at bJ6_compare_7cf53_0 7 rfl
theorem dJ6_compare_7cf53_14 : decode cJ6_compare_7cf53 14 = .ok (.iconst 0, 1) := dk_at bJ6_compare_7cf53_0 8 rfl
theorem dJ6_compare_7cf53_15 : decode cJ6_compare_7cf53 15 = .ok (.goto 4, 3) := dk_at bJ6_compare_7cf53_0 9 rfl
theorem dJ6_compare_7cf53_18 : decode cJ6_compare_7cf53 18 = .ok (.iconst 1, 1) := dk_at bJ6_compare_7cf53_0 10 rfl
theorem dJ6_compare_7cf53_19 : decode cJ6_compare_7cf53 19 = .ok (.ireturn, 1) := dk_at bJ6_compare_7cf53_0 11 rfl
theorem bJ6_bitCount_0f7a4_0 : dk cJ6_bitCount_0f7a4 [(0, .iload_n 0, 1), (1, .iload_n 0, 1), (2, .iconst 1, 1), (3, .iushr, 1), (4, .ldc_w 265, 3), (7, .iand, 1), (8, .isub, 1), (9, .istore_n 0, 1), (10, .iload_n 0, 1), (11, .ldc_w 266, 3), (14, .iand, 1), (15, .iload_n 0, 1), (16, .iconst 2, 1), (17, .iushr, 1), (18, .ldc_w 266, 3), (21, .iand, 1), (22, .iadd, 1), (23, .istore_n 0, 1), (24, .iload_n 0, 1), (25, .iload_n 0, 1), (26, .iconst 4, 1), (27, .iushr, 1), (28, .iadd, 1), (29, .ldc_w 267, 3), (32, .iand, 1), (33, .istore_n 0, 1), (34, .iload_n 0, 1), (35, .iload_n 0, 1), (36, .bipush 8, 2), (38, .iushr, 1), (39, .iadd, 1), (40, .istore_n 0, 1), (41, .iload_n 0, 1), (42, .iload_n 0, 1), (43, .bipush 16, 2), (45, .iushr, 1), (46, .iadd, 1), (47, .istore_n 0, 1), (48, .iload_n 0, 1), (49, .bipush 63, 2)] = true := by decide +kernel
theorem dJ6_bitCount_0f7a4_0 : decode cJ6_bitCount_0f7a4 0 = .ok (.iload_n 0, 1) := dk_at bJ6_bitCount_0f7a4_0 0 rfl
theorem dJ6_bitCount_0f7a4_1 : decode cJ6_bitCount_0f7a4 1 = .ok (.iload_n 0, 1) := dk_at bJ6_bitCount_0f7a4_0 1 rfl
theorem dJ6_bitCount_0f7a4_2 : decode cJ6_bitCount_0f7a4 2 = .ok (.iconst 1, 1) := dk_at bJ6_bitCount_0f7a4_0 2 rfl
theorem dJ6_bitCount_0f7a4_3 : decode cJ6_bitCount_0f7a4 3 = .ok (.iushr, 1) := dk_at bJ6_bitCount_0f7a4_0 3 rfl
theorem dJ6_bitCount_0f7a4_4 : decode cJ6_bitCount_0f7a4 4 = .ok (.ldc_w 265, 3) := dk_at bJ6_bitCount_0f7a4_0 4 rfl
theorem dJ6_bitCount_0f7a4_7 : decode cJ6_bitCount_0f7a4 7 = .ok (.iand, 1) := dk_at bJ6_bitCount_0f7a4_0 5 rfl
theorem dJ6_bitCount_0f7a4_8 : decode cJ6_bitCount_0f7a4 8 = .ok (.isub, 1) := dk_at bJ6_bitCount_0f7a4_0 6 rfl
theorem dJ6_bitCount_0f7a4_9 : decode cJ6_bitCount_0f7a4 9 = .ok (.istore_n 0, 1) := dk_at bJ6_bitCount_0f7a4_0 7 rfl
theorem dJ6_bitCount_0f7a4_10 : decode cJ6_bitCount_0f7a4 10 = .ok (.iload_n 0, 1) := dk_at bJ6_bitCount_0f7a4_0 8 rfl
theorem dJ6_bitCount_0f7a4_11 : decode cJ6_bitCount_0f7a4 11 = .ok (.ldc_w 266, 3) := dk_at bJ6_bitCount_0f7a4_0 9 rfl
theorem dJ6_bitCount_0f7a4_14 : decode cJ6_bitCount_0f7a4 14 = .ok (.iand, 1) := dk_at bJ6_bitCount_0f7a4_0 10 rfl
theorem dJ6_bitCount_0f7a4_15 : decode cJ6_bitCount_0f7a4 15 = .ok (.iload_n 0, 1) := dk_at bJ6_bitCount_0f7a4_0 11 rfl
theorem dJ6_bitCount_0f7a4_16 : decode cJ6_bitCount_0f7a4 16 = .ok (.iconst 2, 1) := dk_at bJ6_bitCount_0f7a4_0 12 rfl
theorem dJ6_bitCount_0f7a4_17 : decode cJ6_bitCount_0f7a4 17 = .ok (.iushr, 1) := dk_at bJ6_bitCount_0f7a4_0 13 rfl
theorem dJ6_bitCount_0f7a4_18 : decode cJ6_bitCount_0f7a4 18 = .ok (.ldc_w 266, 3) := dk_at bJ6_bitCount_0f7a4_0 14 rfl
theorem dJ6_bitCount_0f7a4_21 : decode cJ6_bitCount_0f7a4 21 = .ok (.iand, 1) := dk_at bJ6_bitCount_0f7a4_0 15 rfl
theorem dJ6_bitCount_0f7a4_22 : decode cJ6_bitCount_0f7a4 22 = .ok (.iadd, 1) := dk_at bJ6_bitCount_0f7a4_0 16 rfl
theorem dJ6_bitCount_0f7a4_23 : decode cJ6_bitCount_0f7a4 23 = .ok (.istore_n 0, 1) := dk_at bJ6_bitCount_0f7a4_0 17 rfl
theorem dJ6_bitCount_0f7a4_24 : decode cJ6_bitCount_0f7a4 24 = .ok (.iload_n 0, 1) := dk_at bJ6_bitCount_0f7a4_0 18 rfl
theorem dJ6_bitCount_0f7a4_25 : decode cJ6_bitCount_0f7a4 25 = .ok (.iload_n 0, 1) := dk_at bJ6_bitCount_0f7a4_0 19 rfl
theorem dJ6_bitCount_0f7a4_26 : decode cJ6_bitCount_0f7a4 26 = .ok (.iconst 4, 1) := dk_at bJ6_bitCount_0f7a4_0 20 rfl
theorem dJ6_bitCount_0f7a4_27 : decode cJ6_bitCount_0f7a4 27 = .ok (.iushr, 1) := dk_at bJ6_bitCount_0f7a4_0 21 rfl
theorem dJ6_bitCount_0f7a4_28 : decode cJ6_bitCount_0f7a4 28 = .ok (.iadd, 1) := dk_at bJ6_bitCount_0f7a4_0 22 rfl
theorem dJ6_bitCount_0f7a4_29 : decode cJ6_bitCount_0f7a4 29 = .ok (.ldc_w 267, 3) := dk_at bJ6_bitCount_0f7a4_0 23 rfl
theorem dJ6_bitCount_0f7a4_32 : decode cJ6_bitCount_0f7a4 32 = .ok (.iand, 1) := dk_at bJ6_bitCount_0f7a4_0 24 rfl
theorem dJ6_bitCount_0f7a4_33 : decode cJ6_bitCount_0f7a4 33 = .ok (.istore_n 0, 1) := dk_at bJ6_bitCount_0f7a4_0 25 rfl
theorem dJ6_bitCount_0f7a4_34 : decode cJ6_bitCount_0f7a4 34 = .ok (.iload_n 0, 1) := dk_at bJ6_bitCount_0f7a4_0 26 rfl
theorem dJ6_bitCount_0f7a4_35 : decode cJ6_bitCount_0f7a4 35 = .ok (.iload_n 0, 1) := dk_at bJ6_bitCount_0f7a4_0 27 rfl
theorem dJ6_bitCount_0f7a4_36 : decode cJ6_bitCount_0f7a4 36 = .ok (.bipush 8, 2) := dk_at bJ6_bitCount_0f7a4_0 28 rfl
theorem dJ6_bitCount_0f7a4_38 : decode cJ6_bitCount_0f7a4 38 = .ok (.iushr, 1) := dk_at bJ6_bitCount_0f7a4_0 29 rfl
theorem dJ6_bitCount_0f7a4_39 : decode cJ6_bitCount_0f7a4 39 = .ok (.iadd, 1) := dk_at bJ6_bitCount_0f7a4_0 30 rfl
theorem dJ6_bitCount_0f7a4_40 : decode cJ6_bitCount_0f7a4 40 = .ok (.istore_n 0, 1) := dk_at bJ6_bitCount_0f7a4_0 31 rfl
theorem dJ6_bitCount_0f7a4_41 : decode cJ6_bitCount_0f7a4 41 = .ok (.iload_n 0, 1) := dk_at bJ6_bitCount_0f7a4_0 32 rfl
theorem dJ6_bitCount_0f7a4_42 : decode cJ6_bitCount_0f7a4 42 = .ok (.iload_n 0, 1) := dk_at bJ6_bitCount_0f7a4_0 33 rfl
theorem dJ6_bitCount_0f7a4_43 : decode cJ6_bitCount_0f7a4 43 = .ok (.bipush 16, 2) := dk_at bJ6_bitCount_0f7a4_0 34 rfl
theorem dJ6_bitCount_0f7a4_45 : decode cJ6_bitCount_0f7a4 45 = .ok (.iushr, 1) := dk_at bJ6_bitCount_0f7a4_0 35 rfl
theorem dJ6_bitCount_0f7a4_46 : decode cJ6_bitCount_0f7a4 46 = .ok (.iadd, 1) := dk_at bJ6_bitCount_0f7a4_0 36 rfl
theorem dJ6_bitCount_0f7a4_47 : decode cJ6_bitCount_0f7a4 47 = .ok (.istore_n 0, 1) := dk_at bJ6_bitCount_0f7a4_0 37 rfl
theorem dJ6_bitCount_0f7a4_48 : decode cJ6_bitCount_0f7a4 48 = .ok (.iload_n 0, 1) := dk_at bJ6_bitCount_0f7a4_0 38 rfl
theorem dJ6_bitCount_0f7a4_49 : decode cJ6_bitCount_0f7a4 49 = .ok (.bipush 63, 2) := dk_at bJ6_bitCount_0f7a4_0 39 rfl
theorem bJ6_bitCount_0f7a4_51 : dk cJ6_bitCount_0f7a4 [(51, .iand, 1), (52, .ireturn, 1)] = true := by decide +kernel
theorem dJ6_bitCount_0f7a4_51 : decode cJ6_bitCount_0f7a4 51 = .ok (.iand, 1) := dk_at bJ6_bitCount_0f7a4_51 0 rfl
theorem dJ6_bitCount_0f7a4_52 : decode cJ6_bitCount_0f7a4 52 = .ok (.ireturn, 1) := dk_at bJ6_bitCount_0f7a4_51 1 rfl
theorem bJ9_abs_0f7a4_0 : dk cJ9_abs_0f7a4 [(0, .iload_n 0, 1), (1, .ifCond .ge 8, 3), (4, .iload_n 0, 1), (5, .ineg, 1), (6, .goto 4, 3), (9, .iload_n 0, 1), (10, .ireturn, 1)] = true := by decide +kernel
theorem dJ9_abs_0f7a4_0 : decode cJ9_abs_0f7a4 0 = .ok (.iload_n 0, 1) := dk_at bJ9_abs_0f7a4_0 0 rfl
theorem dJ9_abs_0f7a4_1 : decode cJ9_abs_0f7a4 1 = .ok (.ifCond .ge 8, 3) := dk_at bJ9_abs_0f7a4_0 1 rfl
theorem dJ9_abs_0f7a4_4 : decode cJ9_abs_0f7a4 4 = .ok (.iload_n 0, 1) := dk_at bJ9_abs_0f7a4_0 2 rfl
theorem dJ9_abs_0f7a4_5 : decode cJ9_abs_0f7a4 5 = .ok (.ineg, 1) := dk_at bJ9_abs_0f7a4_0 3 rfl
theorem dJ9_abs_0f7a4_6 : decode cJ9_abs_0f7a4 6 = .ok (.goto 4, 3) := dk_at bJ9_abs_0f7a4_0 4 rfl
theorem dJ9_abs_0f7a4_9 : decode cJ9_abs_0f7a4 9 = .ok (.iload_n 0, 1) := dk_at bJ9_abs_0f7a4_0 5 rfl
theorem dJ9_abs_0f7a4_10 : decode cJ9_abs_0f7a4 10 = .ok (.ireturn, 1) := dk_at bJ9_abs_0f7a4_0 6 rfl
theorem bJ9_max_7cf53_0 : dk cJ9_max_7cf53 [(0, .iload_n 0, 1), (1, .iload_n 1, 1), (2, .if_icmp .lt 7, 3), (5, .iload_n 0, 1), (6, .goto 4, 3), (9, .iload_n 1, 1), (10, .ireturn, 1)] = true := by decide +kernel
theorem dJ9_max_7cf53_0 : decode cJ9_max_7cf53 0 = .ok (.iload_n 0, 1) := dk_at bJ9_max_7cf53_0 0 rfl
theorem dJ9_max_7cf53_1 : decode cJ9_max_7cf53 1 = .ok (.iload_n 1, 1) := dk_at bJ9_max_7cf53_0 1 rfl
theorem dJ9_max_7cf53_2 : decode cJ9_max_7cf53 2 = .ok (.if_icmp .lt 7, 3) := dk_at bJ9_max_7cf53_0 2 rfl
theorem dJ9_max_7cf53_5 : decode cJ9_max_7cf53 5 = .ok (.iload_n 0, 1) := dk_at bJ9_max_7cf53_0 3 rfl
theorem dJ9_max_7cf53_6 : decode cJ9_max_7cf53 6 = .ok (.goto 4, 3) := dk_at bJ9_max_7cf53_0 4 rfl
theorem dJ9_max_7cf53_9 : decode cJ9_max_7cf53 9 = .ok (.iload_n 1, 1) := dk_at bJ9_max_7cf53_0 5 rfl
theorem dJ9_max_7cf53_10 : decode cJ9_max_7cf53 10 = .ok (.ireturn, 1) := dk_at bJ9_max_7cf53_0 6 rfl
theorem bJ9_min_7cf53_0 : dk cJ9_min_7cf53 [(0, .iload_n 0, 1), (1, .iload_n 1, 1), (2, .if_icmp .gt 7, 3), (5, .iload_n 0, 1), (6, .goto 4, 3), (9, .iload_n 1, 1), (10, .ireturn, 1)] = true := by decide +kernel
theorem dJ9_min_7cf53_0 : decode cJ9_min_7cf53 0 = .ok (.iload_n 0, 1) := dk_at bJ9_min_7cf53_0 0 rfl
theorem dJ9_min_7cf53_1 : decode cJ9_min_7cf53 1 = .ok (.iload_n 1, 1) := dk_at bJ9_min_7cf53_0 1 rfl
theorem dJ9_min_7cf53_2 : decode cJ9_min_7cf53 2 = .ok (.if_icmp .gt 7, 3) := dk_at bJ9_min_7cf53_0 2 rfl
theorem dJ9_min_7cf53_5 : decode cJ9_min_7cf53 5 = .ok (.iload_n 0, 1) := dk_at bJ9_min_7cf53_0 3 rfl
theorem dJ9_min_7cf53_6 : decode cJ9_min_7cf53 6 = .ok (.goto 4, 3) := dk_at bJ9_min_7cf53_0 4 rfl
theorem dJ9_min_7cf53_9 : decode cJ9_min_7cf53 9 = .ok (.iload_n 1, 1) := dk_at bJ9_min_7cf53_0 5 rfl
theorem dJ9_min_7cf53_10 : decode cJ9_min_7cf53 10 = .ok (.ireturn, 1) := dk_at bJ9_min_7cf53_0 6 rfl
theorem bJ9_min_f86c9_0 : dk cJ9_min_f86c9 [(0, .lload_n 0, 1), (1, .lload_n 2, 1), (2, .lcmp, 1), (3, .ifCond .gt 7, 3), (6, .lload_n 0, 1), (7, .goto 4, 3), (10, .lload_n 2, 1), (11, .lreturn, 1)] = true := by decide +kernel
theorem dJ9_min_f86c9_0 : decode cJ9_min_f86c9 0 = .ok (.lload_n 0, 1) := dk_at bJ9_min_f86c9_0 0 rfl
theorem dJ9_min_f86c9_1 : decode cJ9_min_f86c9 1 = .ok (.lload_n 2, 1) := dk_at bJ9_min_f86c9_0 1 rfl
theorem dJ9_min_f86c9_2 : decode cJ9_min_f86c9 2 = .ok (.lcmp, 1) := dk_at bJ9_min_f86c9_0 2 rfl
theorem dJ9_min_f86c9_3 : decode cJ9_min_f86c9 3 = .ok (.ifCond .gt 7, 3) := dk_at bJ9_min_f86c9_0 3 rfl
theorem dJ9_min_f86c9_6 : decode cJ9_min_f86c9 6 = .ok (.lload_n 0, 1) := dk_at bJ9_min_f86c9_0 4 rfl
theorem dJ9_min_f86c9_7 : decode cJ9_min_f86c9 7 = .ok (.goto 4, 3) := dk_at bJ9_min_f86c9_0 5 rfl
theorem dJ9_min_f86c9_10 : decode cJ9_min_f86c9 10 = .ok (.lload_n 2, 1) := dk_at bJ9_min_f86c9_0 6 rfl
theorem dJ9_min_f86c9_11 : decode cJ9_min_f86c9 11 = .ok (.lreturn, 1) := dk_at bJ9_min_f86c9_0 7 rfl
set_option maxRecDepth 20000 in
theorem ggJ0_length_8abf5_J0_coder_7d493 : GoodIn wsJ0_length_8abf5 wsJ0_coder_7d493 := goodIn_r _ [6, 7, 8] rfl (by decide +kernel)
set_option maxRecDepth 20000 in
theorem gJ0_length_8abf5_J0_coder_7d493 : GoodIn wsJ0_length_8abf5 (wsV RJ0 335 RJ0 yJ0_coder_7d493 wsJ0_coder_7d493) := goodIn_app (goodIn_r _ [2, 3, 4, 5] rfl (by decide +kernel)) ggJ0_length_8abf5_J0_coder_7d493
theorem bJ0_length_8abf5_0 : dk cJ0_length_8abf5 [(0, .aload_n 0, 1), (1, .getfield 9, 3), (4, .arraylength, 1), (5, .aload_n 0, 1), (6, .invokevirtual 335, 3), (9, .ishr, 1), (10, .ireturn, 1)] = true := by decide +kernel
theorem dJ0_length_8abf5_0 : decode cJ0_length_8abf5 0 = .ok (.aload_n 0, 1) := dk_at bJ0_length_8abf5_0 0 rfl
theorem dJ0_length_8abf5_1 : decode cJ0_length_8abf5 1 = .ok (.getfield 9, 3) := dk_at bJ0_length_8abf5_0 1 rfl
theorem dJ0_length_8abf5_4 : decode cJ0_length_8abf5 4 = .ok (.arraylength, 1) := dk_at bJ0_length_8abf5_0 2 rfl
theorem dJ0_length_8abf5_5 : decode cJ0_length_8abf5 5 = .ok (.aload_n 0, 1) := dk_at bJ0_length_8abf5_0 3 rfl
theorem dJ0_length_8abf5_6 : decode cJ0_length_8abf5 6 = .ok (.invokevirtual 335, 3) := dk_at bJ0_length_8abf5_0 4 rfl
theorem dJ0_length_8abf5_9 : decode cJ0_length_8abf5 9 = .ok (.ishr, 1) := dk_at bJ0_length_8abf5_0 5 rfl
theorem dJ0_length_8abf5_10 : decode cJ0_length_8abf5 10 = .ok (.ireturn, 1) := dk_at bJ0_length_8abf5_0 6 rfl
set_option maxRecDepth 20000 in
theorem ggJ0_charAt_5068e_J0_isLatin1_aae02 : GoodIn wsJ0_charAt_5068e wsJ0_isLatin1_aae02 := goodIn_r _ [6, 7, 8] rfl (by decide +kernel)
set_option maxRecDepth 20000 in
theorem gJ0_charAt_5068e_J0_isLatin1_aae02 : GoodIn wsJ0_charAt_5068e (wsV RJ0 492 RJ0 yJ0_isLatin1_aae02 wsJ0_isLatin1_aae02) := goodIn_app (goodIn_r _ [2, 3, 4, 5] rfl (by decide +kernel)) ggJ0_charAt_5068e_J0_isLatin1_aae02
set_option maxRecDepth 20000 in
theorem ggJ0_charAt_5068e_J1_charAt_3b067 : GoodIn wsJ0_charAt_5068e wsJ1_charAt_3b067 := goodIn_r _ [12, 13, 14, 5, 15, 16, 17, 18, 19, 20] rfl (by decide +kernel)
set_option maxRecDepth 20000 in
theorem gJ0_charAt_5068e_J1_charAt_3b067 : GoodIn wsJ0_charAt_5068e (va_wsS RJ0 495 yJ1_charAt_3b067 wsJ1_charAt_3b067) := goodIn_app (goodIn_r _ [9, 10, 11] rfl (by decide +kernel)) ggJ0_charAt_5068e_J1_charAt_3b067
set_option maxRecDepth 20000 in
theorem ggJ0_charAt_5068e_J2_charAt_3b067 : GoodIn wsJ0_charAt_5068e wsJ2_charAt_3b067 := goodIn_r _ [24, 25, 26, 23, 27, 28, 29, 30, 31, 14, 5, 15, 16, 17, 18, 19, 20, 32, 33, 34, 35, 36, 37] rfl (by decide +kernel)
set_option maxRecDepth 20000 in
theorem gJ0_charAt_5068e_J2_charAt_3b067 : GoodIn wsJ0_charAt_5068e (va_wsS RJ0 498 yJ2_charAt_3b067 wsJ2_charAt_3b067) := goodIn_app (goodIn_r _ [21, 22, 23] rfl (by decide +kernel)) ggJ0_charAt_5068e_J2_charAt_3b067
theorem bJ0_charAt_5068e_0 : dk cJ0_charAt_5068e [(0, .aload_n 0, 1), (1, .invokevirtual 492, 3), (4, .ifCond .eq 12, 3), (7, .aload_n 0, 1), (8, .getfield 9, 3), (11, .iload_n 1, 1), (12, .invokestatic 495, 3), (15, .ireturn, 1), (16, .aload_n 0, 1), (17, .getfield 9, 3), (20, .iload_n 1, 1), (21, .invokestatic 498, 3), (24, .ireturn, 1)] = true := by decide +kernel
theorem dJ0_charAt_5068e_0 : decode cJ0_charAt_5068e 0 = .ok (.aload_n 0, 1) := dk_at bJ0_charAt_5068e_0 0 rfl
theorem dJ0_charAt_5068e_1 : decode cJ0_charAt_5068e 1 = .ok (.invokevirtual 492, 3) := dk_at bJ0_charAt_5068e_0 1 rfl
theorem dJ0_charAt_5068e_4 : decode cJ0_charAt_5068e 4 = .ok (.ifCond .eq 12, 3) := dk_at bJ0_charAt_5068e_0 2 rfl
theorem dJ0_charAt_5068e_7 : decode cJ0_charAt_5068e 7 = .ok (.aload_n 0, 1) := dk_at bJ0_charAt_5068e_0 3 rfl
theorem dJ0_charAt_5068e_8 : decode cJ0_charAt_5068e 8 = .ok (.getfield 9, 3) := dk_at bJ0_charAt_5068e_0 4 rfl
theorem dJ0_charAt_5068e_11 : decode cJ0_charAt_5068e 11 = .ok (.iload_n 1, 1) := dk_at bJ0_charAt_5068e_0 5 rfl
theorem dJ0_charAt_5068e_12 : decode cJ0_charAt_5068e 12 = .ok (.invokestatic 495, 3) := dk_at bJ0_charAt_5068e_0 6 rfl
theorem dJ0_charAt_5068e_15 : decode cJ0_charAt_5068e 15 = .ok (.ireturn, 1) := dk_at bJ0_charAt_5068e_0 7 rfl
theorem dJ0_charAt_5068e_16 : decode cJ0_charAt_5068e 16 = .ok (.aload_n 0, 1) := dk_at bJ0_charAt_5068e_0 8 rfl
theorem dJ0_charAt_5068e_17 : decode cJ0_charAt_5068e 17 = .ok (.getfield 9, 3) := dk_at bJ0_charAt_5068e_0 9 rfl
theorem dJ0_charAt_5068e_20 : decode cJ0_charAt_5068e 20 = .ok (.iload_n 1, 1) := dk_at bJ0_charAt_5068e_0 10 rfl
theorem dJ0_charAt_5068e_21 : decode cJ0_charAt_5068e 21 = .ok (.invokestatic 498, 3) := dk_at bJ0_charAt_5068e_0 11 rfl
theorem dJ0_charAt_5068e_24 : decode cJ0_charAt_5068e 24 = .ok (.ireturn, 1) := dk_at bJ0_charAt_5068e_0 12 rfl
theorem bJ0_coder_7d493_0 : dk cJ0_coder_7d493 [(0, .getstatic 38, 3), (3, .ifCond .eq 10, 3), (6, .aload_n 0, 1), (7, .getfield 15, 3), (10, .goto 4, 3), (13, .iconst 1, 1), (14, .ireturn, 1)] = true := by decide +kernel
theorem dJ0_coder_7d493_0 : decode cJ0_coder_7d493 0 = .ok (.getstatic 38, 3) := dk_at bJ0_coder_7d493_0 0 rfl
theorem dJ0_coder_7d493_3 : decode cJ0_coder_7d493 3 = .ok (.ifCond .eq 10, 3) := dk_at bJ0_coder_7d493_0 1 rfl
theorem dJ0_coder_7d493_6 : decode cJ0_coder_7d493 6 = .ok (.aload_n 0, 1) := dk_at bJ0_coder_7d493_0 2 rfl
theorem dJ0_coder_7d493_7 : decode cJ0_coder_7d493 7 = .ok (.getfield 15, 3) := dk_at bJ0_coder_7d493_0 3 rfl
theorem dJ0_coder_7d493_10 : decode cJ0_coder_7d493 10 = .ok (.goto 4, 3) := dk_at bJ0_coder_7d493_0 4 rfl
theorem dJ0_coder_7d493_13 : decode cJ0_coder_7d493 13 = .ok (.iconst 1, 1) := dk_at bJ0_coder_7d493_0 5 rfl
theorem dJ0_coder_7d493_14 : decode cJ0_coder_7d493 14 = .ok (.ireturn, 1) := dk_at bJ0_coder_7d493_0 6 rfl
theorem bJ0_isLatin1_aae02_0 : dk cJ0_isLatin1_aae02 [(0, .getstatic 38, 3), (3, .ifCond .eq 14, 3), (6, .aload_n 0, 1), (7, .getfield 15, 3), (10, .ifCond .ne 7, 3), (13, .iconst 1, 1), (14, .goto 4, 3), (17, .iconst 0, 1), (18, .ireturn, 1)] = true := by decide +kernel
theorem dJ0_isLatin1_aae02_0 : decode cJ0_isLatin1_aae02 0 = .ok (.getstatic 38, 3) := dk_at bJ0_isLatin1_aae02_0 0 rfl
theorem dJ0_isLatin1_aae02_3 : decode cJ0_isLatin1_aae02 3 = .ok (.ifCond .eq 14, 3) := dk_at bJ0_isLatin1_aae02_0 1 rfl
theorem dJ0_isLatin1_aae02_6 : decode cJ0_isLatin1_aae02 6 = .ok (.aload_n 0, 1) := dk_at bJ0_isLatin1_aae02_0 2 rfl
theorem dJ0_isLatin1_aae02_7 : decode cJ0_isLatin1_aae02 7 = .ok (.getfield 15, 3) := dk_at bJ0_isLatin1_aae02_0 3 rfl
theorem dJ0_isLatin1_aae02_10 : decode cJ0_isLatin1_aae02 10 = .ok (.ifCond .ne 7, 3) := dk_at bJ0_isLatin1_aae02_0 4 rfl
theorem dJ0_isLatin1_aae02_13 : decode cJ0_isLatin1_aae02 13 = .ok (.iconst 1, 1) := dk_at bJ0_isLatin1_aae02_0 5 rfl
theorem dJ0_isLatin1_aae02_14 : decode cJ0_isLatin1_aae02 14 = .ok (.goto 4, 3) := dk_at bJ0_isLatin1_aae02_0 6 rfl
theorem dJ0_isLatin1_aae02_17 : decode cJ0_isLatin1_aae02 17 = .ok (.iconst 0, 1) := dk_at bJ0_isLatin1_aae02_0 7 rfl
theorem dJ0_isLatin1_aae02_18 : decode cJ0_isLatin1_aae02 18 = .ok (.ireturn, 1) := dk_at bJ0_isLatin1_aae02_0 8 rfl
set_option maxRecDepth 20000 in
theorem ggJ0_checkIndex_df160_J3_checkIndex_8e157 : GoodIn wsJ0_checkIndex_df160 wsJ3_checkIndex_8e157 := goodIn_r _ [5] rfl (by decide +kernel)
set_option maxRecDepth 20000 in
theorem gJ0_checkIndex_df160_J3_checkIndex_8e157 : GoodIn wsJ0_checkIndex_df160 (va_wsS RJ0 1059 yJ3_checkIndex_8e157 wsJ3_checkIndex_8e157) := goodIn_app (goodIn_r _ [2, 3, 4] rfl (by decide +kernel)) ggJ0_checkIndex_df160_J3_checkIndex_8e157
theorem bJ0_checkIndex_df160_0 : dk cJ0_checkIndex_df160 [(0, .iload_n 0, 1), (1, .iload_n 1, 1), (2, .getstatic 1053, 3), (5, .invokestatic 1059, 3), (8, .pop, 1), (9, .return_, 1)] = true := by decide +kernel
theorem dJ0_checkIndex_df160_0 : decode cJ0_checkIndex_df160 0 = .ok (.iload_n 0, 1) := dk_at bJ0_checkIndex_df160_0 0 rfl
theorem dJ0_checkIndex_df160_1 : decode cJ0_checkIndex_df160 1 = .ok (.iload_n 1, 1) := dk_at bJ0_checkIndex_df160_0 1 rfl
theorem dJ0_checkIndex_df160_2 : decode cJ0_checkIndex_df160 2 = .ok (.getstatic 1053, 3) := dk_at bJ0_checkIndex_df160_0 2 rfl
theorem dJ0_checkIndex_df160_5 : decode cJ0_checkIndex_df160 5 = .ok (.invokestatic 1059, 3) := dk_at bJ0_checkIndex_df160_0 3 rfl
theorem dJ0_checkIndex_df160_8 : decode cJ0_checkIndex_df160 8 = .ok (.pop, 1) := dk_at bJ0_checkIndex_df160_0 4 rfl
theorem dJ0_checkIndex_df160_9 : decode cJ0_checkIndex_df160 9 = .ok (.return_, 1) := dk_at bJ0_checkIndex_df160_0 5 rfl
set_option maxRecDepth 20000 in
theorem ggJ1_charAt_3b067_J0_checkIndex_df160 : GoodIn wsJ1_charAt_3b067 wsJ0_checkIndex_df160 := goodIn_r _ [4, 5, 6, 7, 8, 9] rfl (by decide +kernel)
set_option maxRecDepth 20000 in
theorem gJ1_charAt_3b067_J0_checkIndex_df160 : GoodIn wsJ1_charAt_3b067 (va_wsS RJ1 9 yJ0_checkIndex_df160 wsJ0_checkIndex_df160) := goodIn_app (goodIn_r _ [1, 2, 3] rfl (by decide +kernel)) ggJ1_charAt_3b067_J0_checkIndex_df160
theorem bJ1_charAt_3b067_0 : dk cJ1_charAt_3b067 [(0, .iload_n 1, 1), (1, .aload_n 0, 1), (2, .arraylength, 1), (3, .invokestatic 9, 3), (6, .aload_n 0, 1), (7, .iload_n 1, 1), (8, .baload, 1), (9, .sipush 255, 3), (12, .iand, 1), (13, .i2c, 1), (14, .ireturn, 1)] = true := by decide +kernel
theorem dJ1_charAt_3b067_0 : decode cJ1_charAt_3b067 0 = .ok (.iload_n 1, 1) := dk_at bJ1_charAt_3b067_0 0 rfl
theorem dJ1_charAt_3b067_1 : decode cJ1_charAt_3b067 1 = .ok (.aload_n 0, 1) := dk_at bJ1_charAt_3b067_0 1 rfl
theorem dJ1_charAt_3b067_2 : decode cJ1_charAt_3b067 2 = .ok (.arraylength, 1) := dk_at bJ1_charAt_3b067_0 2 rfl
theorem dJ1_charAt_3b067_3 : decode cJ1_charAt_3b067 3 = .ok (.invokestatic 9, 3) := dk_at bJ1_charAt_3b067_0 3 rfl
theorem dJ1_charAt_3b067_6 : decode cJ1_charAt_3b067 6 = .ok (.aload_n 0, 1) := dk_at bJ1_charAt_3b067_0 4 rfl
theorem dJ1_charAt_3b067_7 : decode cJ1_charAt_3b067 7 = .ok (.iload_n 1, 1) := dk_at bJ1_charAt_3b067_0 5 rfl
theorem dJ1_charAt_3b067_8 : decode cJ1_charAt_3b067 8 = .ok (.baload, 1) := dk_at bJ1_charAt_3b067_0 6 rfl
theorem dJ1_charAt_3b067_9 : decode cJ1_charAt_3b067 9 = .ok (.sipush 255, 3) := dk_at bJ1_charAt_3b067_0 7 rfl
theorem dJ1_charAt_3b067_12 : decode cJ1_charAt_3b067 12 = .ok (.iand, 1) := dk_at bJ1_charAt_3b067_0 8 rfl
theorem dJ1_charAt_3b067_13 : decode cJ1_charAt_3b067 13 = .ok (.i2c, 1) := dk_at bJ1_charAt_3b067_0 9 rfl
theorem dJ1_charAt_3b067_14 : decode cJ1_charAt_3b067 14 = .ok (.ireturn, 1) := dk_at bJ1_charAt_3b067_0 10 rfl
set_option maxRecDepth 20000 in
theorem ggJ2_getChar_3b067_J2_length_9d52b : GoodIn wsJ2_getChar_3b067 wsJ2_length_9d52b := goodIn_r _ [7] rfl (by decide +kernel)
set_option maxRecDepth 20000 in
theorem gJ2_getChar_3b067_J2_length_9d52b : GoodIn wsJ2_getChar_3b067 (va_wsS RJ2 48 yJ2_length_9d52b wsJ2_length_9d52b) := goodIn_app (goodIn_r _ [4, 5, 6] rfl (by decide +kernel)) ggJ2_getChar_3b067_J2_length_9d52b
theorem bJ2_getChar_3b067_0 : dk cJ2_getChar_3b067 [(0, .getstatic 44, 3), (3, .ifCond .ne 25, 3), (6, .iload_n 1, 1), (7, .ifCond .lt 11, 3), (10, .iload_n 1, 1), (11, .aload_n 0, 1), (12, .invokestatic 48, 3), (15, .if_icmp .lt 13, 3), (18, .new 52, 3), (21, .dup, 1), (22, .ldc 54, 2), (24, .invokespecial 56, 3), (27, .athrow, 1), (28, .iload_n 1, 1), (29, .iconst 1, 1), (30, .ishl, 1), (31, .istore_n 1, 1), (32, .aload_n 0, 1), (33, .iload_n 1, 1), (34, .iinc 1 1, 3), (37, .baload, 1), (38, .sipush 255, 3), (41, .iand, 1), (42, .getstatic 59, 3), (45, .ishl, 1), (46, .aload_n 0, 1), (47, .iload_n 1, 1), (48, .baload, 1), (49, .sipush 255, 3), (52, .iand, 1), (53, .getstatic 63, 3), (56, .ishl, 1), (57, .ior, 1), (58, .i2c, 1), (59, .ireturn, 1)] = true := by decide +kernel
theorem dJ2_getChar_3b067_0 : decode cJ2_getChar_3b067 0 = .ok (.getstatic 44, 3) := dk_at bJ2_getChar_3b067_0 0 rfl
theorem dJ2_getChar_3b067_3 : decode cJ2_getChar_3b067 3 = .ok (.ifCond .ne 25, 3) := dk_at bJ2_getChar_3b067_0 1 rfl
theorem dJ2_getChar_3b067_6 : decode cJ2_getChar_3b067 6 = .ok (.iload_n 1, 1) := dk_at bJ2_getChar_3b067_0 2 rfl
theorem dJ2_getChar_3b067_7 : decode cJ2_getChar_3b067 7 = .ok (.ifCond .lt 11, 3) := dk_at bJ2_getChar_3b067_0 3 rfl
theorem dJ2_getChar_3b067_10 : decode cJ2_getChar_3b067 10 = .ok (.iload_n 1, 1) := dk_at bJ2_getChar_3b067_0 4 rfl
theorem dJ2_getChar_3b067_11 : decode cJ2_getChar_3b067 11 = .ok (.aload_n 0, 1) := dk_at bJ2_getChar_3b067_0 5 rfl
theorem dJ2_getChar_3b067_12 : decode cJ2_getChar_3b067 12 = .ok (.invokestatic 48, 3) := dk_at bJ2_getChar_3b067_0 6 rfl
theorem dJ2_getChar_3b067_15 : decode cJ2_getChar_3b067 15 = .ok (.if_icmp .lt 13, 3) := dk_at bJ2_getChar_3b067_0 7 rfl
theorem dJ2_getChar_3b067_18 : decode cJ2_getChar_3b067 18 = .ok (.new 52, 3) := dk_at bJ2_getChar_3b067_0 8 rfl
theorem dJ2_getChar_3b067_21 : decode cJ2_getChar_3b067 21 = .ok (.dup, 1) := dk_at bJ2_getChar_3b067_0 9 rfl
theorem dJ2_getChar_3b067_22 : decode cJ2_getChar_3b067 22 = .ok (.ldc 54, 2) := dk_at bJ2_getChar_3b067_0 10 rfl
theorem dJ2_getChar_3b067_24 : decode cJ2_getChar_3b067 24 = .ok (.invokespecial 56, 3) := dk_at bJ2_getChar_3b067_0 11 rfl
theorem dJ2_getChar_3b067_27 : decode cJ2_getChar_3b067 27 = .ok (.athrow, 1) := dk_at bJ2_getChar_3b067_0 12 rfl
theorem dJ2_getChar_3b067_28 : decode cJ2_getChar_3b067 28 = .ok (.iload_n 1, 1) := dk_at bJ2_getChar_3b067_0 13 rfl
theorem dJ2_getChar_3b067_29 : decode cJ2_getChar_3b067 29 = .ok (.iconst 1, 1) := dk_at bJ2_getChar_3b067_0 14 rfl
theorem dJ2_getChar_3b067_30 : decode cJ2_getChar_3b067 30 = .ok (.ishl, 1) := dk_at bJ2_getChar_3b067_0 15 rfl
theorem dJ2_getChar_3b067_31 : decode cJ2_getChar_3b067 31 = .ok (.istore_n 1, 1) := dk_at bJ2_getChar_3b067_0 16 rfl
theorem dJ2_getChar_3b067_32 : decode cJ2_getChar_3b067 32 = .ok (.aload_n 0, 1) := dk_at bJ2_getChar_3b067_0 17 rfl
theorem dJ2_getChar_3b067_33 : decode cJ2_getChar_3b067 33 = .ok (.iload_n 1, 1) := dk_at bJ2_getChar_3b067_0 18 rfl
theorem dJ2_getChar_3b067_34 : decode cJ2_getChar_3b067 34 = .ok (.iinc 1 1, 3) := dk_at bJ2_getChar_3b067_0 19 rfl
theorem dJ2_getChar_3b067_37 : decode cJ2_getChar_3b067 37 = .ok (.baload, 1) := dk_at bJ2_getChar_3b067_0 20 rfl
theorem dJ2_getChar_3b067_38 : decode cJ2_getChar_3b067 38 = .ok (.sipush 255, 3) := dk_at bJ2_getChar_3b067_0 21 rfl
theorem dJ2_getChar_3b067_41 : decode cJ2_getChar_3b067 41 = .ok (.iand, 1) := dk_at bJ2_getChar_3b067_0 22 rfl
theorem dJ2_getChar_3b067_42 : decode cJ2_getChar_3b067 42 = .ok (.getstatic 59, 3) := dk_at bJ2_getChar_3b067_0 23 rfl
theorem dJ2_getChar_3b067_45 : decode cJ2_getChar_3b067 45 = .ok (.ishl, 1) := dk_at bJ2_getChar_3b067_0 24 rfl
theorem dJ2_getChar_3b067_46 : decode cJ2_getChar_3b067 46 = .ok (.aload_n 0, 1) := dk_at bJ2_getChar_3b067_0 25 rfl
theorem dJ2_getChar_3b067_47 : decode cJ2_getChar_3b067 47 = .ok (.iload_n 1, 1) := dk_at bJ2_getChar_3b067_0 26 rfl
theorem dJ2_getChar_3b067_48 : decode cJ2_getChar_3b067 48 = .ok (.baload, 1) := dk_at bJ2_getChar_3b067_0 27 rfl
theorem dJ2_getChar_3b067_49 : decode cJ2_getChar_3b067 49 = .ok (.sipush 255, 3) := dk_at bJ2_getChar_3b067_0 28 rfl
theorem dJ2_getChar_3b067_52 : decode cJ2_getChar_3b067 52 = .ok (.iand, 1) := dk_at bJ2_getChar_3b067_0 29 rfl
theorem dJ2_getChar_3b067_53 : decode cJ2_getChar_3b067 53 = .ok (.getstatic 63, 3) := dk_at bJ2_getChar_3b067_0 30 rfl
theorem dJ2_getChar_3b067_56 : decode cJ2_getChar_3b067 56 = .ok (.ishl, 1) := dk_at bJ2_getChar_3b067_0 31 rfl
theorem dJ2_getChar_3b067_57 : decode cJ2_getChar_3b067 57 = .ok (.ior, 1) := dk_at bJ2_getChar_3b067_0 32 rfl
theorem dJ2_getChar_3b067_58 : decode cJ2_getChar_3b067 58 = .ok (.i2c, 1) := dk_at bJ2_getChar_3b067_0 33 rfl
theorem dJ2_getChar_3b067_59 : decode cJ2_getChar_3b067 59 = .ok (.ireturn, 1) := dk_at bJ2_getChar_3b067_0 34 rfl
theorem bJ2_length_9d52b_0 : dk cJ2_length_9d52b [(0, .aload_n 0, 1), (1, .arraylength, 1), (2, .iconst 1, 1), (3, .ishr, 1), (4, .ireturn, 1)] = true := by decide +kernel
theorem dJ2_length_9d52b_0 : decode cJ2_length_9d52b 0 = .ok (.aload_n 0, 1) := dk_at bJ2_length_9d52b_0 0 rfl
theorem dJ2_length_9d52b_1 : decode cJ2_length_9d52b 1 = .ok (.arraylength, 1) := dk_at bJ2_length_9d52b_0 1 rfl
theorem dJ2_length_9d52b_2 : decode cJ2_length_9d52b 2 = .ok (.iconst 1, 1) := dk_at bJ2_length_9d52b_0 2 rfl
theorem dJ2_length_9d52b_3 : decode cJ2_length_9d52b 3 = .ok (.ishr, 1) := dk_at bJ2_length_9d52b_0 3 rfl
theorem dJ2_length_9d52b_4 : decode cJ2_length_9d52b 4 = .ok (.ireturn, 1) := dk_at bJ2_length_9d52b_0 4 rfl
set_option maxRecDepth 20000 in
theorem ggJ2_charAt_3b067_J2_checkIndex_2214a : GoodIn wsJ2_charAt_3b067 wsJ2_checkIndex_2214a := goodIn_r _ [4, 5, 6, 3, 7, 8, 9, 10, 11, 12, 13, 14, 15, 16] rfl (by decide +kernel)
set_option maxRecDepth 20000 in
theorem gJ2_charAt_3b067_J2_checkIndex_2214a : GoodIn wsJ2_charAt_3b067 (va_wsS RJ2 67 yJ2_checkIndex_2214a wsJ2_checkIndex_2214a) := goodIn_app (goodIn_r _ [1, 2, 3] rfl (by decide +kernel)) ggJ2_charAt_3b067_J2_checkIndex_2214a
set_option maxRecDepth 20000 in
theorem ggJ2_charAt_3b067_J2_getChar_3b067 : GoodIn wsJ2_charAt_3b067 wsJ2_getChar_3b067 := goodIn_r _ [19, 20, 21, 22, 5, 6, 3, 7] rfl (by decide +kernel)
set_option maxRecDepth 20000 in
theorem gJ2_charAt_3b067_J2_getChar_3b067 : GoodIn wsJ2_charAt_3b067 (va_wsS RJ2 71 yJ2_getChar_3b067 wsJ2_getChar_3b067) := goodIn_app (goodIn_r _ [17, 18, 3] rfl (by decide +kernel)) ggJ2_charAt_3b067_J2_getChar_3b067
theorem bJ2_charAt_3b067_0 : dk cJ2_charAt_3b067 [(0, .iload_n 1, 1), (1, .aload_n 0, 1), (2, .invokestatic 67, 3), (5, .aload_n 0, 1), (6, .iload_n 1, 1), (7, .invokestatic 71, 3), (10, .ireturn, 1)] = true := by decide +kernel
theorem dJ2_charAt_3b067_0 : decode cJ2_charAt_3b067 0 = .ok (.iload_n 1, 1) := dk_at bJ2_charAt_3b067_0 0 rfl
theorem dJ2_charAt_3b067_1 : decode cJ2_charAt_3b067 1 = .ok (.aload_n 0, 1) := dk_at bJ2_charAt_3b067_0 1 rfl
theorem dJ2_charAt_3b067_2 : decode cJ2_charAt_3b067 2 = .ok (.invokestatic 67, 3) := dk_at bJ2_charAt_3b067_0 2 rfl
theorem dJ2_charAt_3b067_5 : decode cJ2_charAt_3b067 5 = .ok (.aload_n 0, 1) := dk_at bJ2_charAt_3b067_0 3 rfl
theorem dJ2_charAt_3b067_6 : decode cJ2_charAt_3b067 6 = .ok (.iload_n 1, 1) := dk_at bJ2_charAt_3b067_0 4 rfl
theorem dJ2_charAt_3b067_7 : decode cJ2_charAt_3b067 7 = .ok (.invokestatic 71, 3) := dk_at bJ2_charAt_3b067_0 5 rfl
theorem dJ2_charAt_3b067_10 : decode cJ2_charAt_3b067 10 = .ok (.ireturn, 1) := dk_at bJ2_charAt_3b067_0 6 rfl
set_option maxRecDepth 20000 in
theorem ggJ2_checkIndex_2214a_J2_length_9d52b : GoodIn wsJ2_checkIndex_2214a wsJ2_length_9d52b := goodIn_r _ [4] rfl (by decide +kernel)
set_option maxRecDepth 20000 in
theorem gJ2_checkIndex_2214a_J2_length_9d52b : GoodIn wsJ2_checkIndex_2214a (va_wsS RJ2 48 yJ2_length_9d52b wsJ2_length_9d52b) := goodIn_app (goodIn_r _ [1, 2, 3] rfl (by decide +kernel)) ggJ2_checkIndex_2214a_J2_length_9d52b
set_option maxRecDepth 20000 in
theorem ggJ2_checkIndex_2214a_J0_checkIndex_df160 : GoodIn wsJ2_checkIndex_2214a wsJ0_checkIndex_df160 := goodIn_r _ [8, 9, 10, 11, 12, 13] rfl (by decide +kernel)
set_option maxRecDepth 20000 in
theorem gJ2_checkIndex_2214a_J0_checkIndex_df160 : GoodIn wsJ2_checkIndex_2214a (va_wsS RJ2 414 yJ0_checkIndex_df160 wsJ0_checkIndex_df160) := goodIn_app (goodIn_r _ [5, 6, 7] rfl (by decide +kernel)) ggJ2_checkIndex_2214a_J0_checkIndex_df160
theorem bJ2_checkIndex_2214a_0 : dk cJ2_checkIndex_2214a [(0, .iload_n 0, 1), (1, .aload_n 1, 1), (2, .invokestatic 48, 3), (5, .invokestatic 414, 3), (8, .return_, 1)] = true := by decide +kernel
theorem dJ2_checkIndex_2214a_0 : decode cJ2_checkIndex_2214a 0 = .ok (.iload_n 0, 1) := dk_at bJ2_checkIndex_2214a_0 0 rfl
theorem dJ2_checkIndex_2214a_1 : decode cJ2_checkIndex_2214a 1 = .ok (.aload_n 1, 1) := dk_at bJ2_checkIndex_2214a_0 1 rfl
theorem dJ2_checkIndex_2214a_2 : decode cJ2_checkIndex_2214a 2 = .ok (.invokestatic 48, 3) := dk_at bJ2_checkIndex_2214a_0 2 rfl
theorem dJ2_checkIndex_2214a_5 : decode cJ2_checkIndex_2214a 5 = .ok (.invokestatic 414, 3) := dk_at bJ2_checkIndex_2214a_0 3 rfl
theorem dJ2_checkIndex_2214a_8 : decode cJ2_checkIndex_2214a 8 = .ok (.return_, 1) := dk_at bJ2_checkIndex_2214a_0 4 rfl
theorem bJ7_fill_d0a16_0 : dk cJ7_fill_d0a16 [(0, .iconst 0, 1), (1, .istore_n 3, 1), (2, .aload_n 0, 1), (3, .arraylength, 1), (4, .istore 4, 2), (6, .iload_n 3, 1), (7, .iload 4, 2), (9, .if_icmp .ge 13, 3), (12, .aload_n 0, 1), (13, .iload_n 3, 1), (14, .lload_n 1, 1), (15, .lastore, 1), (16, .iinc 3 1, 3), (19, .goto (-13), 3), (22, .return_, 1)] = true := by decide +kernel
theorem dJ7_fill_d0a16_0 : decode cJ7_fill_d0a16 0 = .ok (.iconst 0, 1) := dk_at bJ7_fill_d0a16_0 0 rfl
theorem dJ7_fill_d0a16_1 : decode cJ7_fill_d0a16 1 = .ok (.istore_n 3, 1) := dk_at bJ7_fill_d0a16_0 1 rfl
theorem dJ7_fill_d0a16_2 : decode cJ7_fill_d0a16 2 = .ok (.aload_n 0, 1) := dk_at bJ7_fill_d0a16_0 2 rfl
theorem dJ7_fill_d0a16_3 : decode cJ7_fill_d0a16 3 = .ok (.arraylength, 1) := dk_at bJ7_fill_d0a16_0 3 rfl
theorem dJ7_fill_d0a16_4 : decode cJ7_fill_d0a16 4 = .ok (.istore 4, 2) := dk_at bJ7_fill_d0a16_0 4 rfl
theorem dJ7_fill_d0a16_6 : decode cJ7_fill_d0a16 6 = .ok (.iload_n 3, 1) := dk_at bJ7_fill_d0a16_0 5 rfl
theorem dJ7_fill_d0a16_7 : decode cJ7_fill_d0a16 7 = .ok (.iload 4, 2) := dk_at bJ7_fill_d0a16_0 6 rfl
theorem dJ7_fill_d0a16_9 : decode cJ7_fill_d0a16 9 = .ok (.if_icmp .ge 13, 3) := dk_at bJ7_fill_d0a16_0 7 rfl
theorem dJ7_fill_d0a16_12 : decode cJ7_fill_d0a16 12 = .ok (.aload_n 0, 1) := dk_at bJ7_fill_d0a16_0 8 rfl
theorem dJ7_fill_d0a16_13 : decode cJ7_fill_d0a16 13 = .ok (.iload_n 3, 1) := dk_at bJ7_fill_d0a16_0 9 rfl
theorem dJ7_fill_d0a16_14 : decode cJ7_fill_d0a16 14 = .ok (.lload_n 1, 1) := dk_at bJ7_fill_d0a16_0 10 rfl
theorem dJ7_fill_d0a16_15 : decode cJ7_fill_d0a16 15 = .ok (.lastore, 1) := dk_at bJ7_fill_d0a16_0 11 rfl
theorem dJ7_fill_d0a16_16 : decode cJ7_fill_d0a16 16 = .ok (.iinc 3 1, 3) := dk_at bJ7_fill_d0a16_0 12 rfl
theorem dJ7_fill_d0a16_19 : decode cJ7_fill_d0a16 19 = .ok (.goto (-13), 3) := dk_at bJ7_fill_d0a16_0 13 rfl
theorem dJ7_fill_d0a16_22 : decode cJ7_fill_d0a16 22 = .ok (.return_, 1) := dk_at bJ7_fill_d0a16_0 14 rfl
theorem bJ7_fill_53178_0 : dk cJ7_fill_53178 [(0, .iconst 0, 1), (1, .istore_n 2, 1), (2, .aload_n 0, 1), (3, .arraylength, 1), (4, .istore_n 3, 1), (5, .iload_n 2, 1), (6, .iload_n 3, 1), (7, .if_icmp .ge 13, 3), (10, .aload_n 0, 1), (11, .iload_n 2, 1), (12, .iload_n 1, 1), (13, .iastore, 1), (14, .iinc 2 1, 3), (17, .goto (-12), 3), (20, .return_, 1)] = true := by decide +kernel
theorem dJ7_fill_53178_0 : decode cJ7_fill_53178 0 = .ok (.iconst 0, 1) := dk_at bJ7_fill_53178_0 0 rfl
theorem dJ7_fill_53178_1 : decode cJ7_fill_53178 1 = .ok (.istore_n 2, 1) := dk_at bJ7_fill_53178_0 1 rfl
theorem dJ7_fill_53178_2 : decode cJ7_fill_53178 2 = .ok (.aload_n 0, 1) := dk_at bJ7_fill_53178_0 2 rfl
theorem dJ7_fill_53178_3 : decode cJ7_fill_53178 3 = .ok (.arraylength, 1) := dk_at bJ7_fill_53178_0 3 rfl
theorem dJ7_fill_53178_4 : decode cJ7_fill_53178 4 = .ok (.istore_n 3, 1) := dk_at bJ7_fill_53178_0 4 rfl
theorem dJ7_fill_53178_5 : decode cJ7_fill_53178 5 = .ok (.iload_n 2, 1) := dk_at bJ7_fill_53178_0 5 rfl
theorem dJ7_fill_53178_6 : decode cJ7_fill_53178 6 = .ok (.iload_n 3, 1) := dk_at bJ7_fill_53178_0 6 rfl
theorem dJ7_fill_53178_7 : decode cJ7_fill_53178 7 = .ok (.if_icmp .ge 13, 3) := dk_at bJ7_fill_53178_0 7 rfl
theorem dJ7_fill_53178_10 : decode cJ7_fill_53178 10 = .ok (.aload_n 0, 1) := dk_at bJ7_fill_53178_0 8 rfl
theorem dJ7_fill_53178_11 : decode cJ7_fill_53178 11 = .ok (.iload_n 2, 1) := dk_at bJ7_fill_53178_0 9 rfl
theorem dJ7_fill_53178_12 : decode cJ7_fill_53178 12 = .ok (.iload_n 1, 1) := dk_at bJ7_fill_53178_0 10 rfl
theorem dJ7_fill_53178_13 : decode cJ7_fill_53178 13 = .ok (.iastore, 1) := dk_at bJ7_fill_53178_0 11 rfl
theorem dJ7_fill_53178_14 : decode cJ7_fill_53178 14 = .ok (.iinc 2 1, 3) := dk_at bJ7_fill_53178_0 12 rfl
theorem dJ7_fill_53178_17 : decode cJ7_fill_53178 17 = .ok (.goto (-12), 3) := dk_at bJ7_fill_53178_0 13 rfl
theorem dJ7_fill_53178_20 : decode cJ7_fill_53178 20 = .ok (.return_, 1) := dk_at bJ7_fill_53178_0 14 rfl
theorem bJ3_checkIndex_8e157_0 : dk cJ3_checkIndex_8e157 [(0, .iload_n 0, 1), (1, .ifCond .lt 8, 3), (4, .iload_n 0, 1), (5, .iload_n 1, 1), (6, .if_icmp .lt 10, 3), (9, .aload_n 2, 1), (10, .iload_n 0, 1), (11, .iload_n 1, 1), (12, .invokestatic 95, 3), (15, .athrow, 1), (16, .iload_n 0, 1), (17, .ireturn, 1)] = true := by decide +kernel
theorem dJ3_checkIndex_8e157_0 : decode cJ3_checkIndex_8e157 0 = .ok (.iload_n 0, 1) := dk_at bJ3_checkIndex_8e157_0 0 rfl
theorem dJ3_checkIndex_8e157_1 : decode cJ3_checkIndex_8e157 1 = .ok (.ifCond .lt 8, 3) := dk_at bJ3_checkIndex_8e157_0 1 rfl
theorem dJ3_checkIndex_8e157_4 : decode cJ3_checkIndex_8e157 4 = .ok (.iload_n 0, 1) := dk_at bJ3_checkIndex_8e157_0 2 rfl
theorem dJ3_checkIndex_8e157_5 : decode cJ3_checkIndex_8e157 5 = .ok (.iload_n 1, 1) := dk_at bJ3_checkIndex_8e157_0 3 rfl
theorem dJ3_checkIndex_8e157_6 : decode cJ3_checkIndex_8e157 6 = .ok (.if_icmp .lt 10, 3) := dk_at bJ3_checkIndex_8e157_0 4 rfl
theorem dJ3_checkIndex_8e157_9 : decode cJ3_checkIndex_8e157 9 = .ok (.aload_n 2, 1) := dk_at bJ3_checkIndex_8e157_0 5 rfl
theorem dJ3_checkIndex_8e157_10 : decode cJ3_checkIndex_8e157 10 = .ok (.iload_n 0, 1) := dk_at bJ3_checkIndex_8e157_0 6 rfl
theorem dJ3_checkIndex_8e157_11 : decode cJ3_checkIndex_8e157 11 = .ok (.iload_n 1, 1) := dk_at bJ3_checkIndex_8e157_0 7 rfl
theorem dJ3_checkIndex_8e157_12 : decode cJ3_checkIndex_8e157 12 = .ok (.invokestatic 95, 3) := dk_at bJ3_checkIndex_8e157_0 8 rfl
theorem dJ3_checkIndex_8e157_15 : decode cJ3_checkIndex_8e157 15 = .ok (.athrow, 1) := dk_at bJ3_checkIndex_8e157_0 9 rfl
theorem dJ3_checkIndex_8e157_16 : decode cJ3_checkIndex_8e157 16 = .ok (.iload_n 0, 1) := dk_at bJ3_checkIndex_8e157_0 10 rfl
theorem dJ3_checkIndex_8e157_17 : decode cJ3_checkIndex_8e157 17 = .ok (.ireturn, 1) := dk_at bJ3_checkIndex_8e157_0 11 rfl
set_option maxRecDepth 20000 in
theorem inL_R {w : Cond} (h : w ∈ (wsL_law_r1 ++ (wsL_law_r2 ++ (wsL_law_r3 ++ (wsL_law_r4 ++ (wsL_law_r5 ++ (wsL_law_r6 ++ (wsL_law_r7 ++ (wsL_law_r8 ++ (wsL_law_r9 ++ (wsL_law_r10 ++ (wsL_law_r11 ++ (wsL_law_r12 ++ (wsL_law_r13 ++ (wsL_law_r14 ++ (wsL_law_r15 ++ (wsL_law_r16 ++ (wsL_law_r17 ++ (wsL_law_r18 ++ (wsL_law_r19 ++ (wsL_law_r20 ++ (wsL_law_r21 ++ (wsL_law_r22 ++ (wsL_law_r23 ++ (wsL_law_r24 ++ (wsL_law_r25 ++ (wsL_law_r26 ++ (wsL_law_r27 ++ (wsL_law_r28 ++ (wsL_law_r29 ++ (wsL_law_r30 ++ (wsL_law_r31 ++ (wsL_law_r32 ++ (wsL_law_r33 ++ (wsL_law_r34 ++ (wsL_law_r35 ++ (wsL_law_r36 ++ (wsL_law_r37 ++ (wsL_law_r38 ++ (wsL_law_r39 ++ (wsL_law_r40 ++ wsL_law_r41))))))))))))))))))))))))))))))))))))))))) : w ∈ wsL_law := (List.mem_append_left _ (List.mem_append_left _ (List.mem_append_left _ (List.mem_append_left _ (List.mem_append_left _ (List.mem_append_left _ (List.mem_append_left _ (List.mem_append_left _ (List.mem_append_left _ (List.mem_append_left _ (List.mem_append_left _ (List.mem_append_left _ (List.mem_append_left _ (List.mem_append_left _ h))))))))))))))
theorem inL_1 {w : Cond} (h : w ∈ wsL_law_r1) : w ∈ wsL_law := inL_R (List.mem_append_left _ h)
theorem inL_2 {w : Cond} (h : w ∈ wsL_law_r2) : w ∈ wsL_law := inL_R (List.mem_append_right _ (List.mem_append_left _ h))
theorem inL_3 {w : Cond} (h : w ∈ wsL_law_r3) : w ∈ wsL_law := inL_R (List.mem_append_right _ (List.mem_append_right _ (List.mem_append_left _ h)))
theorem inL_4 {w : Cond} (h : w ∈ wsL_law_r4) : w ∈ wsL_law := inL_R (List.mem_append_right _ (List.mem_append_right _ (List.mem_append_right _ (List.mem_append_left _ h))))
theorem inL_5 {w : Cond} (h : w ∈ wsL_law_r5) : w ∈ wsL_law := inL_R (List.mem_append_right _ (List.mem_append_right _ (List.mem_append_right _ (List.mem_append_right _ (List.mem_append_left _ h)))))
theorem inL_6 {w : Cond} (h : w ∈ wsL_law_r6) : w ∈ wsL_law := inL_R (List.mem_append_right _ (List.mem_append_right _ (List.mem_append_right _ (List.mem_append_right _ (List.mem_append_right _ (List.mem_append_left _ h))))))
theorem inL_7 {w : Cond} (h : w ∈ wsL_law_r7) : w ∈ wsL_law := inL_R (List.mem_append_right _ (List.mem_append_right _ (List.mem_append_right _ (List.mem_append_right _ (List.mem_append_right _ (List.mem_append_right _ (List.mem_append_left _ h)))))))
theorem inL_8 {w : Cond} (h : w ∈ wsL_law_r8) : w ∈ wsL_law := inL_R (List.mem_append_right _ (List.mem_append_right _ (List.mem_append_right _ (List.mem_append_right _ (List.mem_append_right _ (List.mem_append_right _ (List.mem_append_right _ (List.mem_append_left _ h))))))))
theorem inL_9 {w : Cond} (h : w ∈ wsL_law_r9) : w ∈ wsL_law := inL_R (List.mem_append_right _ (List.mem_append_right _ (List.mem_append_right _ (List.mem_append_right _ (List.mem_append_right _ (List.mem_append_right _ (List.mem_append_right _ (List.mem_append_right _ (List.mem_append_left _ h)))))))))
theorem inL_10 {w : Cond} (h : w ∈ wsL_law_r10) : w ∈ wsL_law := inL_R (List.mem_append_right _ (List.mem_append_right _ (List.mem_append_right _ (List.mem_append_right _ (List.mem_append_right _ (List.mem_append_right _ (List.mem_append_right _ (List.mem_append_right _ (List.mem_append_right _ (List.mem_append_left _ h))))))))))
theorem inL_11 {w : Cond} (h : w ∈ wsL_law_r11) : w ∈ wsL_law := inL_R (List.mem_append_right _ (List.mem_append_right _ (List.mem_append_right _ (List.mem_append_right _ (List.mem_append_right _ (List.mem_append_right _ (List.mem_append_right _ (List.mem_append_right _ (List.mem_append_right _ (List.mem_append_right _ (List.mem_append_left _ h)))))))))))
theorem inL_12 {w : Cond} (h : w ∈ wsL_law_r12) : w ∈ wsL_law := inL_R (List.mem_append_right _ (List.mem_append_right _ (List.mem_append_right _ (List.mem_append_right _ (List.mem_append_right _ (List.mem_append_right _ (List.mem_append_right _ (List.mem_append_right _ (List.mem_append_right _ (List.mem_append_right _ (List.mem_append_right _ (List.mem_append_left _ h))))))))))))
theorem inL_13 {w : Cond} (h : w ∈ wsL_law_r13) : w ∈ wsL_law := inL_R (List.mem_append_right _ (List.mem_append_right _ (List.mem_append_right _ (List.mem_append_right _ (List.mem_append_right _ (List.mem_append_right _ (List.mem_append_right _ (List.mem_append_right _ (List.mem_append_right _ (List.mem_append_right _ (List.mem_append_right _ (List.mem_append_right _ (List.mem_append_left _ h)))))))))))))
theorem inL_14 {w : Cond} (h : w ∈ wsL_law_r14) : w ∈ wsL_law := inL_R (List.mem_append_right _ (List.mem_append_right _ (List.mem_append_right _ (List.mem_append_right _ (List.mem_append_right _ (List.mem_append_right _ (List.mem_append_right _ (List.mem_append_right _ (List.mem_append_right _ (List.mem_append_right _ (List.mem_append_right _ (List.mem_append_right _ (List.mem_append_right _ (List.mem_append_left _ h))))))))))))))
theorem inL_15 {w : Cond} (h : w ∈ wsL_law_r15) : w ∈ wsL_law := inL_R (List.mem_append_right _ (List.mem_append_right _ (List.mem_append_right _ (List.mem_append_right _ (List.mem_append_right _ (List.mem_append_right _ (List.mem_append_right _ (List.mem_append_right _ (List.mem_append_right _ (List.mem_append_right _ (List.mem_append_right _ (List.mem_append_right _ (List.mem_append_right _ (List.mem_append_right _ (List.mem_append_left _ h)))))))))))))))
theorem inL_16 {w : Cond} (h : w ∈ wsL_law_r16) : w ∈ wsL_law := inL_R (List.mem_append_right _ (List.mem_append_right _ (List.mem_append_right _ (List.mem_append_right _ (List.mem_append_right _ (List.mem_append_right _ (List.mem_append_right _ (List.mem_append_right _ (List.mem_append_right _ (List.mem_append_right _ (List.mem_append_right _ (List.mem_append_right _ (List.mem_append_right _ (List.mem_append_right _ (List.mem_append_right _ (List.mem_append_left _ h))))))))))))))))
theorem inL_17 {w : Cond} (h : w ∈ wsL_law_r17) : w ∈ wsL_law := inL_R (List.mem_append_right _ (List.mem_append_right _ (List.mem_append_right _ (List.mem_append_right _ (List.mem_append_right _ (List.mem_append_right _ (List.mem_append_right _ (List.mem_append_right _ (List.mem_append_right _ (List.mem_append_right _ (List.mem_append_right _ (List.mem_append_right _ (List.mem_append_right _ (List.mem_append_right _ (List.mem_append_right _ (List.mem_append_right _ (List.mem_append_left _ h)))))))))))))))))
theorem inL_18 {w : Cond} (h : w ∈ wsL_law_r18) : w ∈ wsL_law := inL_R (List.mem_append_right _ (List.mem_append_right _ (List.mem_append_right _ (List.mem_append_right _ (List.mem_append_right _ (List.mem_append_right _ (List.mem_append_right _ (List.mem_append_right _ (List.mem_append_right _ (List.mem_append_right _ (List.mem_append_right _ (List.mem_append_right _ (List.mem_append_right _ (List.mem_append_right _ (List.mem_append_right _ (List.mem_append_right _ (List.mem_append_right _ (List.mem_append_left _ h))))))))))))))))))
theorem inL_19 {w : Cond} (h : w ∈ wsL_law_r19) : w ∈ wsL_law := inL_R (List.mem_append_right _ (List.mem_append_right _ (List.mem_append_right _ (List.mem_append_right _ (List.mem_append_right _ (List.mem_append_right _ (List.mem_append_right _ (List.mem_append_right _ (List.mem_append_right _ (List.mem_append_right _ (List.mem_append_right _ (List.mem_append_right _ (List.mem_append_right _ (List.mem_append_right _ (List.mem_append_right _ (List.mem_append_right _ (List.mem_append_right _ (List.mem_append_right _ (List.mem_append_left _ h)))))))))))))))))))
theorem inL_20 {w : Cond} (h : w ∈ wsL_law_r20) : w ∈ wsL_law := inL_R (List.mem_append_right _ (List.mem_append_right _ (List.mem_append_right _ (List.mem_append_right _ (List.mem_append_right _ (List.mem_append_right _ (List.mem_append_right _ (List.mem_append_right _ (List.mem_append_right _ (List.mem_append_right _ (List.mem_append_right _ (List.mem_append_right _ (List.mem_append_right _ (List.mem_append_right _ (List.mem_append_right _ (List.mem_append_right _ (List.mem_append_right _ (List.mem_append_right _ (List.mem_append_right _ (List.mem_append_left _ h))))))))))))))))))))
theorem inL_21 {w : Cond} (h : w ∈ wsL_law_r21) : w ∈ wsL_law := inL_R (List.mem_append_right _ (List.mem_append_right _ (List.mem_append_right _ (List.mem_append_right _ (List.mem_append_right _ (List.mem_append_right _ (List.mem_append_right _ (List.mem_append_right _ (List.mem_append_right _ (List.mem_append_right _ (List.mem_append_right _ (List.mem_append_right _ (List.mem_append_right _ (List.mem_append_right _ (List.mem_append_right _ (List.mem_append_right _ (List.mem_append_right _ (List.mem_append_right _ (List.mem_append_right _ (List.mem_append_right _ (List.mem_append_left _ h)))))))))))))))))))))
theorem inL_22 {w : Cond} (h : w ∈ wsL_law_r22) : w ∈ wsL_law := inL_R (List.mem_append_right _ (List.mem_append_right _ (List.mem_append_right _ (List.mem_append_right _ (List.mem_append_right _ (List.mem_append_right _ (List.mem_append_right _ (List.mem_append_right _ (List.mem_append_right _ (List.mem_append_right _ (List.mem_append_right _ (List.mem_append_right _ (List.mem_append_right _ (List.mem_append_right _ (List.mem_append_right _ (List.mem_append_right _ (List.mem_append_right _ (List.mem_append_right _ (List.mem_append_right _ (List.mem_append_right _ (List.mem_append_right _ (List.mem_append_left _ h))))))))))))))))))))))
theorem inL_23 {w : Cond} (h : w ∈ wsL_law_r23) : w ∈ wsL_law := inL_R (List.mem_append_right _ (List.mem_append_right _ (List.mem_append_right _ (List.mem_append_right _ (List.mem_append_right _ (List.mem_append_right _ (List.mem_append_right _ (List.mem_append_right _ (List.mem_append_right _ (List.mem_append_right _ (List.mem_append_right _ (List.mem_append_right _ (List.mem_append_right _ (List.mem_append_right _ (List.mem_append_right _ (List.mem_append_right _ (List.mem_append_right _ (List.mem_append_right _ (List.mem_append_right _ (List.mem_append_right _ (List.mem_append_right _ (List.mem_append_right _ (List.mem_append_left _ h)))))))))))))))))))))))
theorem inL_24 {w : Cond} (h : w ∈ wsL_law_r24) : w ∈ wsL_law := inL_R (List.mem_append_right _ (List.mem_append_right _ (List.mem_append_right _ (List.mem_append_right _ (List.mem_append_right _ (List.mem_append_right _ (List.mem_append_right _ (List.mem_append_right _ (List.mem_append_right _ (List.mem_append_right _ (List.mem_append_right _ (List.mem_append_right _ (List.mem_append_right _ (List.mem_append_right _ (List.mem_append_right _ (List.mem_append_right _ (List.mem_append_right _ (List.mem_append_right _ (List.mem_append_right _ (List.mem_append_right _ (List.mem_append_right _ (List.mem_append_right _ (List.mem_append_right _ (List.mem_append_left _ h))))))))))))))))))))))))
theorem inL_25 {w : Cond} (h : w ∈ wsL_law_r25) : w ∈ wsL_law := inL_R (List.mem_append_right _ (List.mem_append_right _ (List.mem_append_right _ (List.mem_append_right _ (List.mem_append_right _ (List.mem_append_right _ (List.mem_append_right _ (List.mem_append_right _ (List.mem_append_right _ (List.mem_append_right _ (List.mem_append_right _ (List.mem_append_right _ (List.mem_append_right _ (List.mem_append_right _ (List.mem_append_right _ (List.mem_append_right _ (List.mem_append_right _ (List.mem_append_right _ (List.mem_append_right _ (List.mem_append_right _ (List.mem_append_right _ (List.mem_append_right _ (List.mem_append_right _ (List.mem_append_right _ (List.mem_append_left _ h)))))))))))))))))))))))))
theorem inL_26 {w : Cond} (h : w ∈ wsL_law_r26) : w ∈ wsL_law := inL_R (List.mem_append_right _ (List.mem_append_right _ (List.mem_append_right _ (List.mem_append_right _ (List.mem_append_right _ (List.mem_append_right _ (List.mem_append_right _ (List.mem_append_right _ (List.mem_append_right _ (List.mem_append_right _ (List.mem_append_right _ (List.mem_append_right _ (List.mem_append_right _ (List.mem_append_right _ (List.mem_append_right _ (List.mem_append_right _ (List.mem_append_right _ (List.mem_append_right _ (List.mem_append_right _ (List.mem_append_right _ (List.mem_append_right _ (List.mem_append_right _ (List.mem_append_right _ (List.mem_append_right _ (List.mem_append_right _ (List.mem_append_left _ h))))))))))))))))))))))))))
theorem inL_27 {w : Cond} (h : w ∈ wsL_law_r27) : w ∈ wsL_law := inL_R (List.mem_append_right _ (List.mem_append_right _ (List.mem_append_right _ (List.mem_append_right _ (List.mem_append_right _ (List.mem_append_right _ (List.mem_append_right _ (List.mem_append_right _ (List.mem_append_right _ (List.mem_append_right _ (List.mem_append_right _ (List.mem_append_right _ (List.mem_append_right _ (List.mem_append_right _ (List.mem_append_right _ (List.mem_append_right _ (List.mem_append_right _ (List.mem_append_right _ (List.mem_append_right _ (List.mem_append_right _ (List.mem_append_right _ (List.mem_append_right _ (List.mem_append_right _ (List.mem_append_right _ (List.mem_append_right _ (List.mem_append_right _ (List.mem_append_left _ h)))))))))))))))))))))))))))
theorem inL_28 {w : Cond} (h : w ∈ wsL_law_r28) : w ∈ wsL_law := inL_R (List.mem_append_right _ (List.mem_append_right _ (List.mem_append_right _ (List.mem_append_right _ (List.mem_append_right _ (List.mem_append_right _ (List.mem_append_right _ (List.mem_append_right _ (List.mem_append_right _ (List.mem_append_right _ (List.mem_append_right _ (List.mem_append_right _ (List.mem_append_right _ (List.mem_append_right _ (List.mem_append_right _ (List.mem_append_right _ (List.mem_append_right _ (List.mem_append_right _ (List.mem_append_right _ (List.mem_append_right _ (List.mem_append_right _ (List.mem_append_right _ (List.mem_append_right _ (List.mem_append_right _ (List.mem_append_right _ (List.mem_append_right _ (List.mem_append_right _ (List.mem_append_left _ h))))))))))))))))))))))))))))
theorem inL_29 {w : Cond} (h : w ∈ wsL_law_r29) : w ∈ wsL_law := inL_R (List.mem_append_right _ (List.mem_append_right _ (List.mem_append_right _ (List.mem_append_right _ (List.mem_append_right _ (List.mem_append_right _ (List.mem_append_right _ (List.mem_append_right _ (List.mem_append_right _ (List.mem_append_right _ (List.mem_append_right _ (List.mem_append_right _ (List.mem_append_right _ (List.mem_append_right _ (List.mem_append_right _ (List.mem_append_right _ (List.mem_append_right _ (List.mem_append_right _ (List.mem_append_right _ (List.mem_append_right _ (List.mem_append_right _ (List.mem_append_right _ (List.mem_append_right _ (List.mem_append_right _ (List.mem_append_right _ (List.mem_append_right _ (List.mem_append_right _ (List.mem_append_right _ (List.mem_append_left _ h)))))))))))))))))))))))))))))
theorem inL_30 {w : Cond} (h : w ∈ wsL_law_r30) : w ∈ wsL_law := inL_R (List.mem_append_right _ (List.mem_append_right _ (List.mem_append_right _ (List.mem_append_right _ (List.mem_append_right _ (List.mem_append_right _ (List.mem_append_right _ (List.mem_append_right _ (List.mem_append_right _ (List.mem_append_right _ (List.mem_append_right _ (List.mem_append_right _ (List.mem_append_right _ (List.mem_append_right _ (List.mem_append_right _ (List.mem_append_right _ (List.mem_append_right _ (List.mem_append_right _ (List.mem_append_right _ (List.mem_append_right _ (List.mem_append_right _ (List.mem_append_right _ (List.mem_append_right _ (List.mem_append_right _ (List.mem_append_right _ (List.mem_append_right _ (List.mem_append_right _ (List.mem_append_right _ (List.mem_append_right _ (List.mem_append_left _ h))))))))))))))))))))))))))))))
theorem inL_31 {w : Cond} (h : w ∈ wsL_law_r31) : w ∈ wsL_law := inL_R (List.mem_append_right _ (List.mem_append_right _ (List.mem_append_right _ (List.mem_append_right _ (List.mem_append_right _ (List.mem_append_right _ (List.mem_append_right _ (List.mem_append_right _ (List.mem_append_right _ (List.mem_append_right _ (List.mem_append_right _ (List.mem_append_right _ (List.mem_append_right _ (List.mem_append_right _ (List.mem_append_right _ (List.mem_append_right _ (List.mem_append_right _ (List.mem_append_right _ (List.mem_append_right _ (List.mem_append_right _ (List.mem_append_right _ (List.mem_append_right _ (List.mem_append_right _ (List.mem_append_right _ (List.mem_append_right _ (List.mem_append_right _ (List.mem_append_right _ (List.mem_append_right _ (List.mem_append_right _ (List.mem_append_right _ (List.mem_append_left _ h)))))))))))))))))))))))))))))))
theorem inL_32 {w : Cond} (h : w ∈ wsL_law_r32) : w ∈ wsL_law := inL_R (List.mem_append_right _ (List.mem_append_right _ (List.mem_append_right _ (List.mem_append_right _ (List.mem_append_right _ (List.mem_append_right _ (List.mem_append_right _ (List.mem_append_right _ (List.mem_append_right _ (List.mem_append_right _ (List.mem_append_right _ (List.mem_append_right _ (List.mem_append_right _ (List.mem_append_right _ (List.mem_append_right _ (List.mem_append_right _ (List.mem_append_right _ (List.mem_append_right _ (List.mem_append_right _ (List.mem_append_right _ (List.mem_append_right _ (List.mem_append_right _ (List.mem_append_right _ (List.mem_append_right _ (List.mem_append_right _ (List.mem_append_right _ (List.mem_append_right _ (List.mem_append_right _ (List.mem_append_right _ (List.mem_append_right _ (List.mem_append_right _ (List.mem_append_left _ h))))))))))))))))))))))))))))))))
theorem inL_33 {w : Cond} (h : w ∈ wsL_law_r33) : w ∈ wsL_law := inL_R (List.mem_append_right _ (List.mem_append_right _ (List.mem_append_right _ (List.mem_append_right _ (List.mem_append_right _ (List.mem_append_right _ (List.mem_append_right _ (List.mem_append_right _ (List.mem_append_right _ (List.mem_append_right _ (List.mem_append_right _ (List.mem_append_right _ (List.mem_append_right _ (List.mem_append_right _ (List.mem_append_right _ (List.mem_append_right _ (List.mem_append_right _ (List.mem_append_right _ (List.mem_append_right _ (List.mem_append_right _ (List.mem_append_right _ (List.mem_append_right _ (List.mem_append_right _ (List.mem_append_right _ (List.mem_append_right _ (List.mem_append_right _ (List.mem_append_right _ (List.mem_append_right _ (List.mem_append_right _ (List.mem_append_right _ (List.mem_append_right _ (List.mem_append_right _ (List.mem_append_left _ h)))))))))))))))))))))))))))))))))
theorem inL_34 {w : Cond} (h : w ∈ wsL_law_r34) : w ∈ wsL_law := inL_R (List.mem_append_right _ (List.mem_append_right _ (List.mem_append_right _ (List.mem_append_right _ (List.mem_append_right _ (List.mem_append_right _ (List.mem_append_right _ (List.mem_append_right _ (List.mem_append_right _ (List.mem_append_right _ (List.mem_append_right _ (List.mem_append_right _ (List.mem_append_right _ (List.mem_append_right _ (List.mem_append_right _ (List.mem_append_right _ (List.mem_append_right _ (List.mem_append_right _ (List.mem_append_right _ (List.mem_append_right _ (List.mem_append_right _ (List.mem_append_right _ (List.mem_append_right _ (List.mem_append_right _ (List.mem_append_right _ (List.mem_append_right _ (List.mem_append_right _ (List.mem_append_right _ (List.mem_append_right _ (List.mem_append_right _ (List.mem_append_right _ (List.mem_append_right _ (List.mem_append_right _ (List.mem_append_left _ h))))))))))))))))))))))))))))))))))
theorem inL_35 {w : Cond} (h : w ∈ wsL_law_r35) : w ∈ wsL_law := inL_R (List.mem_append_right _ (List.mem_append_right _ (List.mem_append_right _ (List.mem_append_right _ (List.mem_append_right _ (List.mem_append_right _ (List.mem_append_right _ (List.mem_append_right _ (List.mem_append_right _ (List.mem_append_right _ (List.mem_append_right _ (List.mem_append_right _ (List.mem_append_right _ (List.mem_append_right _ (List.mem_append_right _ (List.mem_append_right _ (List.mem_append_right _ (List.mem_append_right _ (List.mem_append_right _ (List.mem_append_right _ (List.mem_append_right _ (List.mem_append_right _ (List.mem_append_right _ (List.mem_append_right _ (List.mem_append_right _ (List.mem_append_right _ (List.mem_append_right _ (List.mem_append_right _ (List.mem_append_right _ (List.mem_append_right _ (List.mem_append_right _ (List.mem_append_right _ (List.mem_append_right _ (List.mem_append_right _ (List.mem_append_left _ h)))))))))))))))))))))))))))))))))))
theorem inL_36 {w : Cond} (h : w ∈ wsL_law_r36) : w ∈ wsL_law := inL_R (List.mem_append_right _ (List.mem_append_right _ (List.mem_append_right _ (List.mem_append_right _ (List.mem_append_right _ (List.mem_append_right _ (List.mem_append_right _ (List.mem_append_right _ (List.mem_append_right _ (List.mem_append_right _ (List.mem_append_right _ (List.mem_append_right _ (List.mem_append_right _ (List.mem_append_right _ (List.mem_append_right _ (List.mem_append_right _ (List.mem_append_right _ (List.mem_append_right _ (List.mem_append_right _ (List.mem_append_right _ (List.mem_append_right _ (List.mem_append_right _ (List.mem_append_right _ (List.mem_append_right _ (List.mem_append_right _ (List.mem_append_right _ (List.mem_append_right _ (List.mem_append_right _ (List.mem_append_right _ (List.mem_append_right _ (List.mem_append_right _ (List.mem_append_right _ (List.mem_append_right _ (List.mem_append_right _ (List.mem_append_right _ (List.mem_append_left _ h))))))))))))))))))))))))))))))))))))
theorem inL_37 {w : Cond} (h : w ∈ wsL_law_r37) : w ∈ wsL_law := inL_R (List.mem_append_right _ (List.mem_append_right _ (List.mem_append_right _ (List.mem_append_right _ (List.mem_append_right _ (List.mem_append_right _ (List.mem_append_right _ (List.mem_append_right _ (List.mem_append_right _ (List.mem_append_right _ (List.mem_append_right _ (List.mem_append_right _ (List.mem_append_right _ (List.mem_append_right _ (List.mem_append_right _ (List.mem_append_right _ (List.mem_append_right _ (List.mem_append_right _ (List.mem_append_right _ (List.mem_append_right _ (List.mem_append_right _ (List.mem_append_right _ (List.mem_append_right _ (List.mem_append_right _ (List.mem_append_right _ (List.mem_append_right _ (List.mem_append_right _ (List.mem_append_right _ (List.mem_append_right _ (List.mem_append_right _ (List.mem_append_right _ (List.mem_append_right _ (List.mem_append_right _ (List.mem_append_right _ (List.mem_append_right _ (List.mem_append_right _ (List.mem_append_left _ h)))))))))))))))))))))))))))))))))))))
theorem inL_38 {w : Cond} (h : w ∈ wsL_law_r38) : w ∈ wsL_law := inL_R (List.mem_append_right _ (List.mem_append_right _ (List.mem_append_right _ (List.mem_append_right _ (List.mem_append_right _ (List.mem_append_right _ (List.mem_append_right _ (List.mem_append_right _ (List.mem_append_right _ (List.mem_append_right _ (List.mem_append_right _ (List.mem_append_right _ (List.mem_append_right _ (List.mem_append_right _ (List.mem_append_right _ (List.mem_append_right _ (List.mem_append_right _ (List.mem_append_right _ (List.mem_append_right _ (List.mem_append_right _ (List.mem_append_right _ (List.mem_append_right _ (List.mem_append_right _ (List.mem_append_right _ (List.mem_append_right _ (List.mem_append_right _ (List.mem_append_right _ (List.mem_append_right _ (List.mem_append_right _ (List.mem_append_right _ (List.mem_append_right _ (List.mem_append_right _ (List.mem_append_right _ (List.mem_append_right _ (List.mem_append_right _ (List.mem_append_right _ (List.mem_append_right _ (List.mem_append_left _ h))))))))))))))))))))))))))))))))))))))
theorem inL_39 {w : Cond} (h : w ∈ wsL_law_r39) : w ∈ wsL_law := inL_R (List.mem_append_right _ (List.mem_append_right _ (List.mem_append_right _ (List.mem_append_right _ (List.mem_append_right _ (List.mem_append_right _ (List.mem_append_right _ (List.mem_append_right _ (List.mem_append_right _ (List.mem_append_right _ (List.mem_append_right _ (List.mem_append_right _ (List.mem_append_right _ (List.mem_append_right _ (List.mem_append_right _ (List.mem_append_right _ (List.mem_append_right _ (List.mem_append_right _ (List.mem_append_right _ (List.mem_append_right _ (List.mem_append_right _ (List.mem_append_right _ (List.mem_append_right _ (List.mem_append_right _ (List.mem_append_right _ (List.mem_append_right _ (List.mem_append_right _ (List.mem_append_right _ (List.mem_append_right _ (List.mem_append_right _ (List.mem_append_right _ (List.mem_append_right _ (List.mem_append_right _ (List.mem_append_right _ (List.mem_append_right _ (List.mem_append_right _ (List.mem_append_right _ (List.mem_append_right _ (List.mem_append_left _ h)))))))))))))))))))))))))))))))))))))))
theorem inL_40 {w : Cond} (h : w ∈ wsL_law_r40) : w ∈ wsL_law := inL_R (List.mem_append_right _ (List.mem_append_right _ (List.mem_append_right _ (List.mem_append_right _ (List.mem_append_right _ (List.mem_append_right _ (List.mem_append_right _ (List.mem_append_right _ (List.mem_append_right _ (List.mem_append_right _ (List.mem_append_right _ (List.mem_append_right _ (List.mem_append_right _ (List.mem_append_right _ (List.mem_append_right _ (List.mem_append_right _ (List.mem_append_right _ (List.mem_append_right _ (List.mem_append_right _ (List.mem_append_right _ (List.mem_append_right _ (List.mem_append_right _ (List.mem_append_right _ (List.mem_append_right _ (List.mem_append_right _ (List.mem_append_right _ (List.mem_append_right _ (List.mem_append_right _ (List.mem_append_right _ (List.mem_append_right _ (List.mem_append_right _ (List.mem_append_right _ (List.mem_append_right _ (List.mem_append_right _ (List.mem_append_right _ (List.mem_append_right _ (List.mem_append_right _ (List.mem_append_right _ (List.mem_append_right _ (List.mem_append_left _ h))))))))))))))))))))))))))))))))))))))))
theorem inL_41 {w : Cond} (h : w ∈ wsL_law_r41) : w ∈ wsL_law := inL_R (List.mem_append_right _ (List.mem_append_right _ (List.mem_append_right _ (List.mem_append_right _ (List.mem_append_right _ (List.mem_append_right _ (List.mem_append_right _ (List.mem_append_right _ (List.mem_append_right _ (List.mem_append_right _ (List.mem_append_right _ (List.mem_append_right _ (List.mem_append_right _ (List.mem_append_right _ (List.mem_append_right _ (List.mem_append_right _ (List.mem_append_right _ (List.mem_append_right _ (List.mem_append_right _ (List.mem_append_right _ (List.mem_append_right _ (List.mem_append_right _ (List.mem_append_right _ (List.mem_append_right _ (List.mem_append_right _ (List.mem_append_right _ (List.mem_append_right _ (List.mem_append_right _ (List.mem_append_right _ (List.mem_append_right _ (List.mem_append_right _ (List.mem_append_right _ (List.mem_append_right _ (List.mem_append_right _ (List.mem_append_right _ (List.mem_append_right _ (List.mem_append_right _ (List.mem_append_right _ (List.mem_append_right _ (List.mem_append_right _ h))))))))))))))))))))))))))))))))))))))))
set_option maxRecDepth 20000 in
theorem ggL_law_X11_init : GoodIn wsL_law wsX11_init := goodIn_sub (mem_c (inL_1 (List.mem_of_getElem? (i := 8) rfl)) (mem_app (mem_app (mem_app (mem_app (mem_app (mem_app (mem_app (mem_app (mem_app (mem_app (mem_app (mem_app (mem_app (mem_c (inL_1 (List.mem_of_getElem? (i := 9) rfl)) (mem_c (inL_1 (List.mem_of_getElem? (i := 10) rfl)) (mem_c (inL_1 (List.mem_of_getElem? (i := 11) rfl)) (mem_c (inL_1 (List.mem_of_getElem? (i := 12) rfl)) (mem_c (inL_1 (List.mem_of_getElem? (i := 13) rfl)) (mem_c (inL_1 (List.mem_of_getElem? (i := 14) rfl)) (mem_c (inL_1 (List.mem_of_getElem? (i := 15) rfl)) (mem_c (inL_1 (List.mem_of_getElem? (i := 16) rfl)) (mem_c (inL_1 (List.mem_of_getElem? (i := 17) rfl)) (mem_c (inL_1 (List.mem_of_getElem? (i := 18) rfl)) (mem_c (inL_1 (List.mem_of_getElem? (i := 19) rfl)) (mem_c (inL_1 (List.mem_of_getElem? (i := 20) rfl)) (mem_c (inL_1 (List.mem_of_getElem? (i := 21) rfl)) (mem_c (inL_1 (List.mem_of_getElem? (i := 22) rfl)) (mem_c (inL_1 (List.mem_of_getElem? (i := 23) rfl)) (mem_c (inL_2 (List.mem_of_getElem? (i := 0) rfl)) (mem_c (inL_2 (List.mem_of_getElem? (i := 1) rfl)) (mem_c (inL_2 (List.mem_of_getElem? (i := 2) rfl)) (mem_c (inL_2 (List.mem_of_getElem? (i := 3) rfl)) (mem_c (inL_2 (List.mem_of_getElem? (i := 4) rfl)) (mem_c (inL_2 (List.mem_of_getElem? (i := 5) rfl)) (mem_c (inL_2 (List.mem_of_getElem? (i := 6) rfl)) (mem_c (inL_2 (List.mem_of_getElem? (i := 7) rfl)) (mem_c (inL_2 (List.mem_of_getElem? (i := 8) rfl)) (fun w h => absurd h List.not_mem_nil))))))))))))))))))))))))) (mem_app (mem_c (inL_2 (List.mem_of_getElem? (i := 9) rfl)) (mem_c (inL_2 (List.mem_of_getElem? (i := 10) rfl)) (mem_c (inL_2 (List.mem_of_getElem? (i := 11) rfl)) (mem_c (inL_2 (List.mem_of_getElem? (i := 12) rfl)) (mem_c (inL_2 (List.mem_of_getElem? (i := 13) rfl)) (mem_c (inL_2 (List.mem_of_getElem? (i := 14) rfl)) (mem_c (inL_2 (List.mem_of_getElem? (i := 15) rfl)) (mem_c (inL_2 (List.mem_of_getElem? (i := 16) rfl)) (mem_c (inL_2 (List.mem_of_getElem? (i := 17) rfl)) (mem_c (inL_2 (List.mem_of_getElem? (i := 18) rfl)) (mem_c (inL_2 (List.mem_of_getElem? (i := 19) rfl)) (mem_c (inL_2 (List.mem_of_getElem? (i := 20) rfl)) (mem_c (inL_2 (List.mem_of_getElem? (i := 21) rfl)) (mem_c (inL_2 (List.mem_of_getElem? (i := 22) rfl)) (mem_c (inL_2 (List.mem_of_getElem? (i := 23) rfl)) (mem_c (inL_3 (List.mem_of_getElem? (i := 0) rfl)) (mem_c (inL_3 (List.mem_of_getElem? (i := 1) rfl)) (mem_c (inL_3 (List.mem_of_getElem? (i := 2) rfl)) (mem_c (inL_3 (List.mem_of_getElem? (i := 3) rfl)) (mem_c (inL_3 (List.mem_of_getElem? (i := 4) rfl)) (mem_c (inL_3 (List.mem_of_getElem? (i := 5) rfl)) (mem_c (inL_3 (List.mem_of_getElem? (i := 6) rfl)) (mem_c (inL_3 (List.mem_of_getElem? (i := 7) rfl)) (mem_c (inL_3 (List.mem_of_getElem? (i := 8) rfl)) (fun w h => absurd h List.not_mem_nil))))))))))))))))))))))))) (mem_app (mem_c (inL_3 (List.mem_of_getElem? (i := 9) rfl)) (mem_c (inL_3 (List.mem_of_getElem? (i := 10) rfl)) (mem_c (inL_3 (List.mem_of_getElem? (i := 11) rfl)) (mem_c (inL_3 (List.mem_of_getElem? (i := 12) rfl)) (mem_c (inL_3 (List.mem_of_getElem? (i := 13) rfl)) (mem_c (inL_3 (List.mem_of_getElem? (i := 14) rfl)) (mem_c (inL_3 (List.mem_of_getElem? (i := 15) rfl)) (mem_c (inL_3 (List.mem_of_getElem? (i := 16) rfl)) (mem_c (inL_3 (List.mem_of_getElem? (i := 17) rfl)) (mem_c (inL_3 (List.mem_of_getElem? (i := 18) rfl)) (mem_c (inL_3 (List.mem_of_getElem? (i := 19) rfl)) (mem_c (inL_3 (List.mem_of_getElem? (i := 20) rfl)) (mem_c (inL_3 (List.mem_of_getElem? (i := 21) rfl)) (mem_c (inL_3 (List.mem_of_getElem? (i := 22) rfl)) (mem_c (inL_3 (List.mem_of_getElem? (i := 23) rfl)) (mem_c (inL_4 (List.mem_of_getElem? (i := 0) rfl)) (mem_c (inL_4 (List.mem_of_getElem? (i := 1) rfl)) (mem_c (inL_4 (List.mem_of_getElem? (i := 2) rfl)) (mem_c (inL_4 (List.mem_of_getElem? (i := 3) rfl)) (mem_c (inL_4 (List.mem_of_getElem? (i := 4) rfl)) (mem_c (inL_4 (List.mem_of_getElem? (i := 5) rfl)) (mem_c (inL_4 (List.mem_of_getElem? (i := 6) rfl)) (mem_c (inL_4 (List.mem_of_getElem? (i := 7) rfl)) (mem_c (inL_4 (List.mem_of_getElem? (i := 8) rfl)) (fun w h => absurd h List.not_mem_nil))))))))))))))))))))))))) (mem_app (mem_c (inL_4 (List.mem_of_getElem? (i := 9) rfl)) (mem_c (inL_4 (List.mem_of_getElem? (i := 10) rfl)) (mem_c (inL_4 (List.mem_of_getElem? (i := 11) rfl)) (mem_c (inL_4 (List.mem_of_getElem? (i := 12) rfl)) (mem_c (inL_4 (List.mem_of_getElem? (i := 13) rfl)) (mem_c (inL_4 (List.mem_of_getElem? (i := 14) rfl)) (mem_c (inL_4 (List.mem_of_getElem? (i := 15) rfl)) (mem_c (inL_4 (List.mem_of_getElem? (i := 16) rfl)) (mem_c (inL_4 (List.mem_of_getElem? (i := 17) rfl)) (mem_c (inL_4 (List.mem_of_getElem? (i := 18) rfl)) (mem_c (inL_4 (List.mem_of_getElem? (i := 19) rfl)) (mem_c (inL_4 (List.mem_of_getElem? (i := 20) rfl)) (mem_c (inL_4 (List.mem_of_getElem? (i := 21) rfl)) (mem_c (inL_4 (List.mem_of_getElem? (i := 22) rfl)) (mem_c (inL_4 (List.mem_of_getElem? (i := 23) rfl)) (mem_c (inL_5 (List.mem_of_getElem? (i := 0) rfl)) (mem_c (inL_5 (List.mem_of_getElem? (i := 1) rfl)) (mem_c (inL_5 (List.mem_of_getElem? (i := 2) rfl)) (mem_c (inL_5 (List.mem_of_getElem? (i := 3) rfl)) (mem_c (inL_5 (List.mem_of_getElem? (i := 4) rfl)) (mem_c (inL_5 (List.mem_of_getElem? (i := 5) rfl)) (mem_c (inL_5 (List.mem_of_getElem? (i := 6) rfl)) (mem_c (inL_5 (List.mem_of_getElem? (i := 7) rfl)) (mem_c (inL_5 (List.mem_of_getElem? (i := 8) rfl)) (fun w h => absurd h List.not_mem_nil))))))))))))))))))))))))) (mem_app (mem_c (inL_5 (List.mem_of_getElem? (i := 9) rfl)) (mem_c (inL_5 (List.mem_of_getElem? (i := 10) rfl)) (mem_c (inL_5 (List.mem_of_getElem? (i := 11) rfl)) (mem_c (inL_5 (List.mem_of_getElem? (i := 12) rfl)) (mem_c (inL_5 (List.mem_of_getElem? (i := 13) rfl)) (mem_c (inL_5 (List.mem_of_getElem? (i := 14) rfl)) (mem_c (inL_5 (List.mem_of_getElem? (i := 15) rfl)) (mem_c (inL_5 (List.mem_of_getElem? (i := 16) rfl)) (mem_c (inL_5 (List.mem_of_getElem? (i := 17) rfl)) (mem_c (inL_5 (List.mem_of_getElem? (i := 18) rfl)) (mem_c (inL_5 (List.mem_of_getElem? (i := 19) rfl)) (mem_c (inL_5 (List.mem_of_getElem? (i := 20) rfl)) (mem_c (inL_5 (List.mem_of_getElem? (i := 21) rfl)) (mem_c (inL_5 (List.mem_of_getElem? (i := 22) rfl)) (mem_c (inL_5 (List.mem_of_getElem? (i := 23) rfl)) (mem_c (inL_6 (List.mem_of_getElem? (i := 0) rfl)) (mem_c (inL_6 (List.mem_of_getElem? (i := 1) rfl)) (mem_c (inL_6 (List.mem_of_getElem? (i := 2) rfl)) (mem_c (inL_6 (List.mem_of_getElem? (i := 3) rfl)) (mem_c (inL_6 (List.mem_of_getElem? (i := 4) rfl)) (mem_c (inL_6 (List.mem_of_getElem? (i := 5) rfl)) (mem_c (inL_6 (List.mem_of_getElem? (i := 6) rfl)) (mem_c (inL_6 (List.mem_of_getElem? (i := 7) rfl)) (mem_c (inL_6 (List.mem_of_getElem? (i := 8) rfl)) (fun w h => absurd h List.not_mem_nil))))))))))))))))))))))))) (mem_app (mem_c (inL_6 (List.mem_of_getElem? (i := 9) rfl)) (mem_c (inL_6 (List.mem_of_getElem? (i := 10) rfl)) (mem_c (inL_6 (List.mem_of_getElem? (i := 11) rfl)) (mem_c (inL_6 (List.mem_of_getElem? (i := 12) rfl)) (mem_c (inL_6 (List.mem_of_getElem? (i := 13) rfl)) (mem_c (inL_6 (List.mem_of_getElem? (i := 14) rfl)) (mem_c (inL_6 (List.mem_of_getElem? (i := 15) rfl)) (mem_c (inL_6 (List.mem_of_getElem? (i := 16) rfl)) (mem_c (inL_6 (List.mem_of_getElem? (i := 17) rfl)) (mem_c (inL_6 (List.mem_of_getElem? (i := 18) rfl)) (mem_c (inL_6 (List.mem_of_getElem? (i := 19) rfl)) (mem_c (inL_6 (List.mem_of_getElem? (i := 20) rfl)) (mem_c (inL_6 (List.mem_of_getElem? (i := 21) rfl)) (mem_c (inL_6 (List.mem_of_getElem? (i := 22) rfl)) (mem_c (inL_6 (List.mem_of_getElem? (i := 23) rfl)) (mem_c (inL_7 (List.mem_of_getElem? (i := 0) rfl)) (mem_c (inL_7 (List.mem_of_getElem? (i := 1) rfl)) (mem_c (inL_7 (List.mem_of_getElem? (i := 2) rfl)) (mem_c (inL_7 (List.mem_of_getElem? (i := 3) rfl)) (mem_c (inL_7 (List.mem_of_getElem? (i := 4) rfl)) (mem_c (inL_7 (List.mem_of_getElem? (i := 5) rfl)) (mem_c (inL_7 (List.mem_of_getElem? (i := 6) rfl)) (mem_c (inL_7 (List.mem_of_getElem? (i := 7) rfl)) (mem_c (inL_7 (List.mem_of_getElem? (i := 8) rfl)) (fun w h => absurd h List.not_mem_nil))))))))))))))))))))))))) (mem_c (inL_7 (List.mem_of_getElem? (i := 9) rfl)) (mem_c (inL_7 (List.mem_of_getElem? (i := 10) rfl)) (mem_c (inL_7 (List.mem_of_getElem? (i := 11) rfl)) (mem_c (inL_7 (List.mem_of_getElem? (i := 12) rfl)) (mem_c (inL_7 (List.mem_of_getElem? (i := 13) rfl)) (mem_c (inL_7 (List.mem_of_getElem? (i := 14) rfl)) (mem_c (inL_7 (List.mem_of_getElem? (i := 15) rfl)) (mem_c (inL_7 (List.mem_of_getElem? (i := 16) rfl)) (mem_c (inL_7 (List.mem_of_getElem? (i := 17) rfl)) (mem_c (inL_7 (List.mem_of_getElem? (i := 18) rfl)) (mem_c (inL_7 (List.mem_of_getElem? (i := 19) rfl)) (mem_c (inL_7 (List.mem_of_getElem? (i := 20) rfl)) (mem_c (inL_7 (List.mem_of_getElem? (i := 21) rfl)) (mem_c (inL_7 (List.mem_of_getElem? (i := 22) rfl)) (fun w h => absurd h List.not_mem_nil))))))))))))))))))))) inlX9) inlX11) inlX6) inlX8) inlX0) inlX2) inlX5) inlX7) inlX1) inlX10) inlX4) inlX3)) (by decide +kernel)
set_option maxRecDepth 20000 in
theorem gL_law_X11_init : GoodIn wsL_law (wsX11_init) := ggL_law_X11_init
set_option maxRecDepth 20000 in
theorem ggL_law_X12_init : GoodIn wsL_law wsX12_init := goodIn_sub (mem_c (inL_8 (List.mem_of_getElem? (i := 1) rfl)) (mem_app (mem_app (mem_c (inL_8 (List.mem_of_getElem? (i := 2) rfl)) (mem_c (inL_1 (List.mem_of_getElem? (i := 10) rfl)) (mem_c (inL_1 (List.mem_of_getElem? (i := 11) rfl)) (mem_c (inL_8 (List.mem_of_getElem? (i := 3) rfl)) (mem_c (inL_8 (List.mem_of_getElem? (i := 4) rfl)) (mem_c (inL_8 (List.mem_of_getElem? (i := 5) rfl)) (mem_c (inL_3 (List.mem_of_getElem? (i := 0) rfl)) (mem_c (inL_8 (List.mem_of_getElem? (i := 6) rfl)) (mem_c (inL_8 (List.mem_of_getElem? (i := 7) rfl)) (mem_c (inL_8 (List.mem_of_getElem? (i := 8) rfl)) (mem_c (inL_8 (List.mem_of_getElem? (i := 9) rfl)) (mem_c (inL_8 (List.mem_of_getElem? (i := 10) rfl)) (mem_c (inL_8 (List.mem_of_getElem? (i := 11) rfl)) (mem_c (inL_8 (List.mem_of_getElem? (i := 12) rfl)) (mem_c (inL_8 (List.mem_of_getElem? (i := 13) rfl)) (mem_c (inL_8 (List.mem_of_getElem? (i := 14) rfl)) (mem_c (inL_8 (List.mem_of_getElem? (i := 15) rfl)) (mem_c (inL_8 (List.mem_of_getElem? (i := 16) rfl)) (mem_c (inL_8 (List.mem_of_getElem? (i := 17) rfl)) (mem_c (inL_4 (List.mem_of_getElem? (i := 21) rfl)) (mem_c (inL_8 (List.mem_of_getElem? (i := 18) rfl)) (mem_c (inL_8 (List.mem_of_getElem? (i := 19) rfl)) (mem_c (inL_8 (List.mem_of_getElem? (i := 20) rfl)) (mem_c (inL_8 (List.mem_of_getElem? (i := 21) rfl)) (fun w h => absurd h List.not_mem_nil))))))))))))))))))))))))) (mem_app (mem_c (inL_8 (List.mem_of_getElem? (i := 22) rfl)) (mem_c (inL_8 (List.mem_of_getElem? (i := 23) rfl)) (mem_c (inL_9 (List.mem_of_getElem? (i := 0) rfl)) (mem_c (inL_9 (List.mem_of_getElem? (i := 1) rfl)) (mem_c (inL_9 (List.mem_of_getElem? (i := 2) rfl)) (mem_c (inL_9 (List.mem_of_getElem? (i := 3) rfl)) (mem_c (inL_9 (List.mem_of_getElem? (i := 4) rfl)) (mem_c (inL_9 (List.mem_of_getElem? (i := 5) rfl)) (mem_c (inL_9 (List.mem_of_getElem? (i := 6) rfl)) (mem_c (inL_9 (List.mem_of_getElem? (i := 7) rfl)) (mem_c (inL_9 (List.mem_of_getElem? (i := 8) rfl)) (mem_c (inL_9 (List.mem_of_getElem? (i := 9) rfl)) (mem_c (inL_9 (List.mem_of_getElem? (i := 10) rfl)) (mem_c (inL_9 (List.mem_of_getElem? (i := 11) rfl)) (mem_c (inL_9 (List.mem_of_getElem? (i := 12) rfl)) (mem_c (inL_9 (List.mem_of_getElem? (i := 13) rfl)) (mem_c (inL_9 (List.mem_of_getElem? (i := 14) rfl)) (mem_c (inL_9 (List.mem_of_getElem? (i := 15) rfl)) (mem_c (inL_9 (List.mem_of_getElem? (i := 16) rfl)) (mem_c (inL_9 (List.mem_of_getElem? (i := 17) rfl)) (mem_c (inL_9 (List.mem_of_getElem? (i := 18) rfl)) (mem_c (inL_9 (List.mem_of_getElem? (i := 19) rfl)) (mem_c (inL_9 (List.mem_of_getElem? (i := 20) rfl)) (mem_c (inL_9 (List.mem_of_getElem? (i := 21) rfl)) (fun w h => absurd h List.not_mem_nil))))))))))))))))))))))))) (mem_c (inL_9 (List.mem_of_getElem? (i := 22) rfl)) (mem_c (inL_9 (List.mem_of_getElem? (i := 23) rfl)) (mem_c (inL_10 (List.mem_of_getElem? (i := 0) rfl)) (fun w h => absurd h List.not_mem_nil)))))) inlX12)) (by decide +kernel)
set_option maxRecDepth 20000 in
theorem gL_law_X12_init : GoodIn wsL_law (wsX12_init) := ggL_law_X12_init
set_option maxRecDepth 20000 in
theorem ggL_law_X11_feed : GoodIn wsL_law wsX11_feed := goodIn_sub (mem_c (inL_10 (List.mem_of_getElem? (i := 4) rfl)) (mem_app (mem_app (mem_c (inL_1 (List.mem_of_getElem? (i := 15) rfl)) (mem_c (inL_10 (List.mem_of_getElem? (i := 5) rfl)) (mem_c (inL_10 (List.mem_of_getElem? (i := 6) rfl)) (mem_c (inL_10 (List.mem_of_getElem? (i := 7) rfl)) (mem_c (inL_10 (List.mem_of_getElem? (i := 8) rfl)) (mem_c (inL_1 (List.mem_of_getElem? (i := 14) rfl)) (mem_c (inL_10 (List.mem_of_getElem? (i := 9) rfl)) (mem_c (inL_3 (List.mem_of_getElem? (i := 2) rfl)) (mem_c (inL_3 (List.mem_of_getElem? (i := 1) rfl)) (fun w h => absurd h List.not_mem_nil)))))))))) inlX11) inlX9)) (by decide +kernel)
set_option maxRecDepth 20000 in
theorem gL_law_X11_feed : GoodIn wsL_law (wsV RL 13 RX11 yX11_feed wsX11_feed) := goodIn_app (goodIn_sub (mem_c (inL_10 (List.mem_of_getElem? (i := 1) rfl)) (mem_c (inL_10 (List.mem_of_getElem? (i := 2) rfl)) (mem_c (inL_10 (List.mem_of_getElem? (i := 3) rfl)) (mem_c (inL_1 (List.mem_of_getElem? (i := 2) rfl)) (fun w h => absurd h List.not_mem_nil))))) (by decide +kernel)) ggL_law_X11_feed
set_option maxRecDepth 20000 in
theorem ggL_law_X12_feed : GoodIn wsL_law wsX12_feed := goodIn_sub (mem_c (inL_10 (List.mem_of_getElem? (i := 13) rfl)) (mem_app (mem_c (inL_10 (List.mem_of_getElem? (i := 14) rfl)) (mem_c (inL_8 (List.mem_of_getElem? (i := 4) rfl)) (fun w h => absurd h List.not_mem_nil))) inlX12)) (by decide +kernel)
set_option maxRecDepth 20000 in
theorem gL_law_X12_feed : GoodIn wsL_law (wsV RL 17 RX12 yX12_feed wsX12_feed) := goodIn_app (goodIn_sub (mem_c (inL_10 (List.mem_of_getElem? (i := 10) rfl)) (mem_c (inL_10 (List.mem_of_getElem? (i := 11) rfl)) (mem_c (inL_10 (List.mem_of_getElem? (i := 12) rfl)) (mem_c (inL_1 (List.mem_of_getElem? (i := 5) rfl)) (fun w h => absurd h List.not_mem_nil))))) (by decide +kernel)) ggL_law_X12_feed
set_option maxRecDepth 20000 in
theorem ggL_law_X11_end : GoodIn wsL_law wsX11_end := goodIn_sub (mem_c (inL_10 (List.mem_of_getElem? (i := 18) rfl)) (mem_app (mem_app (mem_c (inL_1 (List.mem_of_getElem? (i := 15) rfl)) (mem_c (inL_10 (List.mem_of_getElem? (i := 5) rfl)) (mem_c (inL_10 (List.mem_of_getElem? (i := 19) rfl)) (mem_c (inL_10 (List.mem_of_getElem? (i := 20) rfl)) (mem_c (inL_1 (List.mem_of_getElem? (i := 2) rfl)) (mem_c (inL_10 (List.mem_of_getElem? (i := 21) rfl)) (fun w h => absurd h List.not_mem_nil))))))) inlX11) inlX9)) (by decide +kernel)
set_option maxRecDepth 20000 in
theorem gL_law_X11_end : GoodIn wsL_law (wsV RL 18 RX11 yX11_end wsX11_end) := goodIn_app (goodIn_sub (mem_c (inL_10 (List.mem_of_getElem? (i := 15) rfl)) (mem_c (inL_10 (List.mem_of_getElem? (i := 16) rfl)) (mem_c (inL_10 (List.mem_of_getElem? (i := 17) rfl)) (mem_c (inL_1 (List.mem_of_getElem? (i := 2) rfl)) (fun w h => absurd h List.not_mem_nil))))) (by decide +kernel)) ggL_law_X11_end
set_option maxRecDepth 20000 in
theorem ggL_law_X12_end : GoodIn wsL_law wsX12_end := goodIn_sub (mem_c (inL_11 (List.mem_of_getElem? (i := 1) rfl)) (mem_app (mem_c (inL_10 (List.mem_of_getElem? (i := 14) rfl)) (fun w h => absurd h List.not_mem_nil)) inlX12)) (by decide +kernel)
set_option maxRecDepth 20000 in
theorem gL_law_X12_end : GoodIn wsL_law (wsV RL 22 RX12 yX12_end wsX12_end) := goodIn_app (goodIn_sub (mem_c (inL_10 (List.mem_of_getElem? (i := 22) rfl)) (mem_c (inL_10 (List.mem_of_getElem? (i := 23) rfl)) (mem_c (inL_11 (List.mem_of_getElem? (i := 0) rfl)) (mem_c (inL_1 (List.mem_of_getElem? (i := 5) rfl)) (fun w h => absurd h List.not_mem_nil))))) (by decide +kernel)) ggL_law_X12_end
set_option maxRecDepth 20000 in
theorem ggL_law_X11_wind : GoodIn wsL_law wsX11_wind := goodIn_sub (mem_c (inL_11 (List.mem_of_getElem? (i := 5) rfl)) (mem_app (mem_app (mem_c (inL_1 (List.mem_of_getElem? (i := 23) rfl)) (mem_c (inL_11 (List.mem_of_getElem? (i := 6) rfl)) (mem_c (inL_11 (List.mem_of_getElem? (i := 7) rfl)) (mem_c (inL_11 (List.mem_of_getElem? (i := 8) rfl)) (mem_c (inL_1 (List.mem_of_getElem? (i := 2) rfl)) (mem_c (inL_11 (List.mem_of_getElem? (i := 9) rfl)) (mem_c (inL_10 (List.mem_of_getElem? (i := 19) rfl)) (mem_c (inL_10 (List.mem_of_getElem? (i := 20) rfl)) (mem_c (inL_10 (List.mem_of_getElem? (i := 21) rfl)) (fun w h => absurd h List.not_mem_nil)))))))))) inlX11) inlX8)) (by decide +kernel)
set_option maxRecDepth 20000 in
theorem gL_law_X11_wind : GoodIn wsL_law (wsV RL 23 RX11 yX11_wind wsX11_wind) := goodIn_app (goodIn_sub (mem_c (inL_11 (List.mem_of_getElem? (i := 2) rfl)) (mem_c (inL_11 (List.mem_of_getElem? (i := 3) rfl)) (mem_c (inL_11 (List.mem_of_getElem? (i := 4) rfl)) (mem_c (inL_1 (List.mem_of_getElem? (i := 2) rfl)) (fun w h => absurd h List.not_mem_nil))))) (by decide +kernel)) ggL_law_X11_wind
set_option maxRecDepth 20000 in
theorem ggL_law_X12_wind : GoodIn wsL_law wsX12_wind := goodIn_sub (mem_c (inL_11 (List.mem_of_getElem? (i := 13) rfl)) (mem_app (mem_c (inL_8 (List.mem_of_getElem? (i := 12) rfl)) (mem_c (inL_8 (List.mem_of_getElem? (i := 13) rfl)) (mem_c (inL_11 (List.mem_of_getElem? (i := 14) rfl)) (mem_c (inL_11 (List.mem_of_getElem? (i := 15) rfl)) (mem_c (inL_1 (List.mem_of_getElem? (i := 5) rfl)) (mem_c (inL_11 (List.mem_of_getElem? (i := 16) rfl)) (fun w h => absurd h List.not_mem_nil))))))) inlX12)) (by decide +kernel)
set_option maxRecDepth 20000 in
theorem gL_law_X12_wind : GoodIn wsL_law (wsV RL 27 RX12 yX12_wind wsX12_wind) := goodIn_app (goodIn_sub (mem_c (inL_11 (List.mem_of_getElem? (i := 10) rfl)) (mem_c (inL_11 (List.mem_of_getElem? (i := 11) rfl)) (mem_c (inL_11 (List.mem_of_getElem? (i := 12) rfl)) (mem_c (inL_1 (List.mem_of_getElem? (i := 5) rfl)) (fun w h => absurd h List.not_mem_nil))))) (by decide +kernel)) ggL_law_X12_wind
set_option maxRecDepth 20000 in
theorem ggL_law_X11_port : GoodIn wsL_law wsX11_port := goodIn_sub (mem_c (inL_11 (List.mem_of_getElem? (i := 20) rfl)) (mem_app (mem_app (mem_c (inL_1 (List.mem_of_getElem? (i := 23) rfl)) (mem_c (inL_11 (List.mem_of_getElem? (i := 21) rfl)) (mem_c (inL_11 (List.mem_of_getElem? (i := 7) rfl)) (mem_c (inL_11 (List.mem_of_getElem? (i := 8) rfl)) (mem_c (inL_1 (List.mem_of_getElem? (i := 2) rfl)) (mem_c (inL_11 (List.mem_of_getElem? (i := 9) rfl)) (mem_c (inL_11 (List.mem_of_getElem? (i := 22) rfl)) (mem_c (inL_11 (List.mem_of_getElem? (i := 23) rfl)) (mem_c (inL_12 (List.mem_of_getElem? (i := 0) rfl)) (mem_c (inL_12 (List.mem_of_getElem? (i := 1) rfl)) (mem_c (inL_12 (List.mem_of_getElem? (i := 2) rfl)) (mem_c (inL_12 (List.mem_of_getElem? (i := 3) rfl)) (mem_c (inL_12 (List.mem_of_getElem? (i := 4) rfl)) (mem_c (inL_12 (List.mem_of_getElem? (i := 5) rfl)) (mem_c (inL_12 (List.mem_of_getElem? (i := 6) rfl)) (fun w h => absurd h List.not_mem_nil)))))))))))))))) inlX11) inlX8)) (by decide +kernel)
set_option maxRecDepth 20000 in
theorem gL_law_X11_port : GoodIn wsL_law (wsV RL 28 RX11 yX11_port wsX11_port) := goodIn_app (goodIn_sub (mem_c (inL_11 (List.mem_of_getElem? (i := 17) rfl)) (mem_c (inL_11 (List.mem_of_getElem? (i := 18) rfl)) (mem_c (inL_11 (List.mem_of_getElem? (i := 19) rfl)) (mem_c (inL_1 (List.mem_of_getElem? (i := 2) rfl)) (fun w h => absurd h List.not_mem_nil))))) (by decide +kernel)) ggL_law_X11_port
set_option maxRecDepth 20000 in
theorem ggL_law_X12_port : GoodIn wsL_law wsX12_port := goodIn_sub (mem_c (inL_12 (List.mem_of_getElem? (i := 10) rfl)) (mem_app (mem_c (inL_8 (List.mem_of_getElem? (i := 14) rfl)) (mem_c (inL_12 (List.mem_of_getElem? (i := 11) rfl)) (mem_c (inL_12 (List.mem_of_getElem? (i := 12) rfl)) (mem_c (inL_1 (List.mem_of_getElem? (i := 5) rfl)) (mem_c (inL_12 (List.mem_of_getElem? (i := 13) rfl)) (mem_c (inL_11 (List.mem_of_getElem? (i := 14) rfl)) (mem_c (inL_11 (List.mem_of_getElem? (i := 15) rfl)) (mem_c (inL_11 (List.mem_of_getElem? (i := 16) rfl)) (mem_c (inL_12 (List.mem_of_getElem? (i := 14) rfl)) (mem_c (inL_12 (List.mem_of_getElem? (i := 15) rfl)) (mem_c (inL_12 (List.mem_of_getElem? (i := 16) rfl)) (fun w h => absurd h List.not_mem_nil)))))))))))) inlX12)) (by decide +kernel)
set_option maxRecDepth 20000 in
theorem gL_law_X12_port : GoodIn wsL_law (wsV RL 32 RX12 yX12_port wsX12_port) := goodIn_app (goodIn_sub (mem_c (inL_12 (List.mem_of_getElem? (i := 7) rfl)) (mem_c (inL_12 (List.mem_of_getElem? (i := 8) rfl)) (mem_c (inL_12 (List.mem_of_getElem? (i := 9) rfl)) (mem_c (inL_1 (List.mem_of_getElem? (i := 5) rfl)) (fun w h => absurd h List.not_mem_nil))))) (by decide +kernel)) ggL_law_X12_port
set_option maxRecDepth 20000 in
theorem ggL_law_X11_speed : GoodIn wsL_law wsX11_speed := goodIn_sub (mem_c (inL_12 (List.mem_of_getElem? (i := 20) rfl)) (mem_app (mem_app (mem_c (inL_2 (List.mem_of_getElem? (i := 1) rfl)) (mem_c (inL_12 (List.mem_of_getElem? (i := 21) rfl)) (mem_c (inL_11 (List.mem_of_getElem? (i := 7) rfl)) (mem_c (inL_11 (List.mem_of_getElem? (i := 8) rfl)) (mem_c (inL_1 (List.mem_of_getElem? (i := 2) rfl)) (mem_c (inL_11 (List.mem_of_getElem? (i := 9) rfl)) (mem_c (inL_10 (List.mem_of_getElem? (i := 19) rfl)) (mem_c (inL_10 (List.mem_of_getElem? (i := 20) rfl)) (mem_c (inL_10 (List.mem_of_getElem? (i := 21) rfl)) (fun w h => absurd h List.not_mem_nil)))))))))) inlX11) inlX0)) (by decide +kernel)
set_option maxRecDepth 20000 in
theorem gL_law_X11_speed : GoodIn wsL_law (wsV RL 33 RX11 yX11_speed wsX11_speed) := goodIn_app (goodIn_sub (mem_c (inL_12 (List.mem_of_getElem? (i := 17) rfl)) (mem_c (inL_12 (List.mem_of_getElem? (i := 18) rfl)) (mem_c (inL_12 (List.mem_of_getElem? (i := 19) rfl)) (mem_c (inL_1 (List.mem_of_getElem? (i := 2) rfl)) (fun w h => absurd h List.not_mem_nil))))) (by decide +kernel)) ggL_law_X11_speed
set_option maxRecDepth 20000 in
theorem ggL_law_X12_speed : GoodIn wsL_law wsX12_speed := goodIn_sub (mem_c (inL_13 (List.mem_of_getElem? (i := 1) rfl)) (mem_app (mem_c (inL_8 (List.mem_of_getElem? (i := 15) rfl)) (mem_c (inL_13 (List.mem_of_getElem? (i := 2) rfl)) (mem_c (inL_13 (List.mem_of_getElem? (i := 3) rfl)) (mem_c (inL_1 (List.mem_of_getElem? (i := 5) rfl)) (mem_c (inL_13 (List.mem_of_getElem? (i := 4) rfl)) (mem_c (inL_11 (List.mem_of_getElem? (i := 14) rfl)) (mem_c (inL_11 (List.mem_of_getElem? (i := 15) rfl)) (mem_c (inL_11 (List.mem_of_getElem? (i := 16) rfl)) (fun w h => absurd h List.not_mem_nil))))))))) inlX12)) (by decide +kernel)
set_option maxRecDepth 20000 in
theorem gL_law_X12_speed : GoodIn wsL_law (wsV RL 36 RX12 yX12_speed wsX12_speed) := goodIn_app (goodIn_sub (mem_c (inL_12 (List.mem_of_getElem? (i := 22) rfl)) (mem_c (inL_12 (List.mem_of_getElem? (i := 23) rfl)) (mem_c (inL_13 (List.mem_of_getElem? (i := 0) rfl)) (mem_c (inL_1 (List.mem_of_getElem? (i := 5) rfl)) (fun w h => absurd h List.not_mem_nil))))) (by decide +kernel)) ggL_law_X12_speed
set_option maxRecDepth 20000 in
theorem ggL_law_X11_water : GoodIn wsL_law wsX11_water := goodIn_sub (mem_c (inL_13 (List.mem_of_getElem? (i := 8) rfl)) (mem_app (mem_app (mem_c (inL_2 (List.mem_of_getElem? (i := 1) rfl)) (mem_c (inL_13 (List.mem_of_getElem? (i := 9) rfl)) (mem_c (inL_11 (List.mem_of_getElem? (i := 7) rfl)) (mem_c (inL_11 (List.mem_of_getElem? (i := 8) rfl)) (mem_c (inL_1 (List.mem_of_getElem? (i := 2) rfl)) (mem_c (inL_11 (List.mem_of_getElem? (i := 9) rfl)) (mem_c (inL_10 (List.mem_of_getElem? (i := 19) rfl)) (mem_c (inL_10 (List.mem_of_getElem? (i := 20) rfl)) (mem_c (inL_10 (List.mem_of_getElem? (i := 21) rfl)) (fun w h => absurd h List.not_mem_nil)))))))))) inlX11) inlX0)) (by decide +kernel)
set_option maxRecDepth 20000 in
theorem gL_law_X11_water : GoodIn wsL_law (wsV RL 37 RX11 yX11_water wsX11_water) := goodIn_app (goodIn_sub (mem_c (inL_13 (List.mem_of_getElem? (i := 5) rfl)) (mem_c (inL_13 (List.mem_of_getElem? (i := 6) rfl)) (mem_c (inL_13 (List.mem_of_getElem? (i := 7) rfl)) (mem_c (inL_1 (List.mem_of_getElem? (i := 2) rfl)) (fun w h => absurd h List.not_mem_nil))))) (by decide +kernel)) ggL_law_X11_water
set_option maxRecDepth 20000 in
theorem ggL_law_X12_water : GoodIn wsL_law wsX12_water := goodIn_sub (mem_c (inL_13 (List.mem_of_getElem? (i := 13) rfl)) (mem_app (mem_c (inL_8 (List.mem_of_getElem? (i := 16) rfl)) (mem_c (inL_13 (List.mem_of_getElem? (i := 2) rfl)) (mem_c (inL_13 (List.mem_of_getElem? (i := 3) rfl)) (mem_c (inL_1 (List.mem_of_getElem? (i := 5) rfl)) (mem_c (inL_13 (List.mem_of_getElem? (i := 4) rfl)) (mem_c (inL_11 (List.mem_of_getElem? (i := 14) rfl)) (mem_c (inL_11 (List.mem_of_getElem? (i := 15) rfl)) (mem_c (inL_11 (List.mem_of_getElem? (i := 16) rfl)) (fun w h => absurd h List.not_mem_nil))))))))) inlX12)) (by decide +kernel)
set_option maxRecDepth 20000 in
theorem gL_law_X12_water : GoodIn wsL_law (wsV RL 40 RX12 yX12_water wsX12_water) := goodIn_app (goodIn_sub (mem_c (inL_13 (List.mem_of_getElem? (i := 10) rfl)) (mem_c (inL_13 (List.mem_of_getElem? (i := 11) rfl)) (mem_c (inL_13 (List.mem_of_getElem? (i := 12) rfl)) (mem_c (inL_1 (List.mem_of_getElem? (i := 5) rfl)) (fun w h => absurd h List.not_mem_nil))))) (by decide +kernel)) ggL_law_X12_water
set_option maxRecDepth 20000 in
theorem ggL_law_X11_lasts : GoodIn wsL_law wsX11_lasts := goodIn_sub (mem_c (inL_13 (List.mem_of_getElem? (i := 17) rfl)) (mem_app (mem_app (mem_c (inL_2 (List.mem_of_getElem? (i := 1) rfl)) (mem_c (inL_13 (List.mem_of_getElem? (i := 18) rfl)) (mem_c (inL_13 (List.mem_of_getElem? (i := 19) rfl)) (mem_c (inL_13 (List.mem_of_getElem? (i := 20) rfl)) (mem_c (inL_13 (List.mem_of_getElem? (i := 21) rfl)) (mem_c (inL_13 (List.mem_of_getElem? (i := 22) rfl)) (mem_c (inL_11 (List.mem_of_getElem? (i := 7) rfl)) (mem_c (inL_11 (List.mem_of_getElem? (i := 8) rfl)) (mem_c (inL_1 (List.mem_of_getElem? (i := 2) rfl)) (mem_c (inL_11 (List.mem_of_getElem? (i := 9) rfl)) (mem_c (inL_10 (List.mem_of_getElem? (i := 19) rfl)) (mem_c (inL_10 (List.mem_of_getElem? (i := 20) rfl)) (mem_c (inL_10 (List.mem_of_getElem? (i := 21) rfl)) (fun w h => absurd h List.not_mem_nil)))))))))))))) inlX11) inlX0)) (by decide +kernel)
set_option maxRecDepth 20000 in
theorem gL_law_X11_lasts : GoodIn wsL_law (wsV RL 41 RX11 yX11_lasts wsX11_lasts) := goodIn_app (goodIn_sub (mem_c (inL_13 (List.mem_of_getElem? (i := 14) rfl)) (mem_c (inL_13 (List.mem_of_getElem? (i := 15) rfl)) (mem_c (inL_13 (List.mem_of_getElem? (i := 16) rfl)) (mem_c (inL_1 (List.mem_of_getElem? (i := 2) rfl)) (fun w h => absurd h List.not_mem_nil))))) (by decide +kernel)) ggL_law_X11_lasts
set_option maxRecDepth 20000 in
theorem ggL_law_X12_lasts : GoodIn wsL_law wsX12_lasts := goodIn_sub (mem_c (inL_14 (List.mem_of_getElem? (i := 2) rfl)) (mem_app (mem_c (inL_8 (List.mem_of_getElem? (i := 17) rfl)) (mem_c (inL_13 (List.mem_of_getElem? (i := 2) rfl)) (mem_c (inL_13 (List.mem_of_getElem? (i := 3) rfl)) (mem_c (inL_1 (List.mem_of_getElem? (i := 5) rfl)) (mem_c (inL_13 (List.mem_of_getElem? (i := 4) rfl)) (mem_c (inL_11 (List.mem_of_getElem? (i := 14) rfl)) (mem_c (inL_11 (List.mem_of_getElem? (i := 15) rfl)) (mem_c (inL_11 (List.mem_of_getElem? (i := 16) rfl)) (fun w h => absurd h List.not_mem_nil))))))))) inlX12)) (by decide +kernel)
set_option maxRecDepth 20000 in
theorem gL_law_X12_lasts : GoodIn wsL_law (wsV RL 45 RX12 yX12_lasts wsX12_lasts) := goodIn_app (goodIn_sub (mem_c (inL_13 (List.mem_of_getElem? (i := 23) rfl)) (mem_c (inL_14 (List.mem_of_getElem? (i := 0) rfl)) (mem_c (inL_14 (List.mem_of_getElem? (i := 1) rfl)) (mem_c (inL_1 (List.mem_of_getElem? (i := 5) rfl)) (fun w h => absurd h List.not_mem_nil))))) (by decide +kernel)) ggL_law_X12_lasts
set_option maxRecDepth 20000 in
theorem ggL_law_X11_skipper : GoodIn wsL_law wsX11_skipper := goodIn_sub (mem_c (inL_14 (List.mem_of_getElem? (i := 6) rfl)) (mem_app (mem_app (mem_app (mem_app (mem_app (mem_app (mem_app (mem_c (inL_1 (List.mem_of_getElem? (i := 19) rfl)) (mem_c (inL_2 (List.mem_of_getElem? (i := 15) rfl)) (mem_c (inL_1 (List.mem_of_getElem? (i := 15) rfl)) (mem_c (inL_10 (List.mem_of_getElem? (i := 5) rfl)) (mem_c (inL_2 (List.mem_of_getElem? (i := 1) rfl)) (mem_c (inL_14 (List.mem_of_getElem? (i := 7) rfl)) (mem_c (inL_14 (List.mem_of_getElem? (i := 8) rfl)) (mem_c (inL_11 (List.mem_of_getElem? (i := 7) rfl)) (mem_c (inL_11 (List.mem_of_getElem? (i := 8) rfl)) (mem_c (inL_1 (List.mem_of_getElem? (i := 2) rfl)) (mem_c (inL_11 (List.mem_of_getElem? (i := 9) rfl)) (mem_c (inL_14 (List.mem_of_getElem? (i := 9) rfl)) (mem_c (inL_14 (List.mem_of_getElem? (i := 10) rfl)) (mem_c (inL_14 (List.mem_of_getElem? (i := 11) rfl)) (mem_c (inL_1 (List.mem_of_getElem? (i := 18) rfl)) (mem_c (inL_14 (List.mem_of_getElem? (i := 12) rfl)) (mem_c (inL_14 (List.mem_of_getElem? (i := 13) rfl)) (mem_c (inL_3 (List.mem_of_getElem? (i := 12) rfl)) (mem_c (inL_14 (List.mem_of_getElem? (i := 14) rfl)) (mem_c (inL_14 (List.mem_of_getElem? (i := 15) rfl)) (mem_c (inL_14 (List.mem_of_getElem? (i := 16) rfl)) (mem_c (inL_14 (List.mem_of_getElem? (i := 17) rfl)) (mem_c (inL_14 (List.mem_of_getElem? (i := 18) rfl)) (mem_c (inL_3 (List.mem_of_getElem? (i := 7) rfl)) (fun w h => absurd h List.not_mem_nil))))))))))))))))))))))))) (mem_app (mem_c (inL_3 (List.mem_of_getElem? (i := 8) rfl)) (mem_c (inL_14 (List.mem_of_getElem? (i := 19) rfl)) (mem_c (inL_14 (List.mem_of_getElem? (i := 20) rfl)) (mem_c (inL_14 (List.mem_of_getElem? (i := 21) rfl)) (mem_c (inL_3 (List.mem_of_getElem? (i := 11) rfl)) (mem_c (inL_14 (List.mem_of_getElem? (i := 22) rfl)) (mem_c (inL_3 (List.mem_of_getElem? (i := 20) rfl)) (mem_c (inL_14 (List.mem_of_getElem? (i := 23) rfl)) (mem_c (inL_15 (List.mem_of_getElem? (i := 0) rfl)) (mem_c (inL_15 (List.mem_of_getElem? (i := 1) rfl)) (mem_c (inL_15 (List.mem_of_getElem? (i := 2) rfl)) (mem_c (inL_3 (List.mem_of_getElem? (i := 18) rfl)) (mem_c (inL_3 (List.mem_of_getElem? (i := 21) rfl)) (mem_c (inL_3 (List.mem_of_getElem? (i := 17) rfl)) (mem_c (inL_15 (List.mem_of_getElem? (i := 3) rfl)) (mem_c (inL_15 (List.mem_of_getElem? (i := 4) rfl)) (mem_c (inL_15 (List.mem_of_getElem? (i := 5) rfl)) (mem_c (inL_15 (List.mem_of_getElem? (i := 6) rfl)) (mem_c (inL_15 (List.mem_of_getElem? (i := 7) rfl)) (mem_c (inL_15 (List.mem_of_getElem? (i := 8) rfl)) (mem_c (inL_15 (List.mem_of_getElem? (i := 9) rfl)) (mem_c (inL_15 (List.mem_of_getElem? (i := 10) rfl)) (mem_c (inL_1 (List.mem_of_getElem? (i := 14) rfl)) (mem_c (inL_15 (List.mem_of_getElem? (i := 11) rfl)) (fun w h => absurd h List.not_mem_nil))))))))))))))))))))))))) (mem_app (mem_c (inL_3 (List.mem_of_getElem? (i := 2) rfl)) (mem_c (inL_3 (List.mem_of_getElem? (i := 1) rfl)) (mem_c (inL_15 (List.mem_of_getElem? (i := 12) rfl)) (mem_c (inL_15 (List.mem_of_getElem? (i := 13) rfl)) (mem_c (inL_15 (List.mem_of_getElem? (i := 14) rfl)) (mem_c (inL_15 (List.mem_of_getElem? (i := 15) rfl)) (mem_c (inL_15 (List.mem_of_getElem? (i := 16) rfl)) (mem_c (inL_15 (List.mem_of_getElem? (i := 17) rfl)) (mem_c (inL_15 (List.mem_of_getElem? (i := 18) rfl)) (mem_c (inL_15 (List.mem_of_getElem? (i := 19) rfl)) (mem_c (inL_15 (List.mem_of_getElem? (i := 20) rfl)) (mem_c (inL_15 (List.mem_of_getElem? (i := 21) rfl)) (mem_c (inL_15 (List.mem_of_getElem? (i := 22) rfl)) (mem_c (inL_15 (List.mem_of_getElem? (i := 23) rfl)) (mem_c (inL_16 (List.mem_of_getElem? (i := 0) rfl)) (mem_c (inL_16 (List.mem_of_getElem? (i := 1) rfl)) (mem_c (inL_16 (List.mem_of_getElem? (i := 2) rfl)) (mem_c (inL_16 (List.mem_of_getElem? (i := 3) rfl)) (mem_c (inL_16 (List.mem_of_getElem? (i := 4) rfl)) (mem_c (inL_3 (List.mem_of_getElem? (i := 19) rfl)) (mem_c (inL_16 (List.mem_of_getElem? (i := 5) rfl)) (mem_c (inL_16 (List.mem_of_getElem? (i := 6) rfl)) (mem_c (inL_16 (List.mem_of_getElem? (i := 7) rfl)) (mem_c (inL_16 (List.mem_of_getElem? (i := 8) rfl)) (fun w h => absurd h List.not_mem_nil))))))))))))))))))))))))) (mem_app (mem_c (inL_16 (List.mem_of_getElem? (i := 9) rfl)) (mem_c (inL_16 (List.mem_of_getElem? (i := 10) rfl)) (mem_c (inL_16 (List.mem_of_getElem? (i := 11) rfl)) (mem_c (inL_16 (List.mem_of_getElem? (i := 12) rfl)) (mem_c (inL_16 (List.mem_of_getElem? (i := 13) rfl)) (mem_c (inL_16 (List.mem_of_getElem? (i := 14) rfl)) (mem_c (inL_16 (List.mem_of_getElem? (i := 15) rfl)) (mem_c (inL_16 (List.mem_of_getElem? (i := 16) rfl)) (mem_c (inL_16 (List.mem_of_getElem? (i := 17) rfl)) (mem_c (inL_16 (List.mem_of_getElem? (i := 18) rfl)) (mem_c (inL_16 (List.mem_of_getElem? (i := 19) rfl)) (mem_c (inL_16 (List.mem_of_getElem? (i := 20) rfl)) (mem_c (inL_16 (List.mem_of_getElem? (i := 21) rfl)) (mem_c (inL_16 (List.mem_of_getElem? (i := 22) rfl)) (mem_c (inL_16 (List.mem_of_getElem? (i := 23) rfl)) (mem_c (inL_17 (List.mem_of_getElem? (i := 0) rfl)) (mem_c (inL_17 (List.mem_of_getElem? (i := 1) rfl)) (mem_c (inL_17 (List.mem_of_getElem? (i := 2) rfl)) (mem_c (inL_17 (List.mem_of_getElem? (i := 3) rfl)) (mem_c (inL_17 (List.mem_of_getElem? (i := 4) rfl)) (mem_c (inL_17 (List.mem_of_getElem? (i := 5) rfl)) (mem_c (inL_17 (List.mem_of_getElem? (i := 6) rfl)) (mem_c (inL_17 (List.mem_of_getElem? (i := 7) rfl)) (mem_c (inL_17 (List.mem_of_getElem? (i := 8) rfl)) (fun w h => absurd h List.not_mem_nil))))))))))))))))))))))))) (mem_app (mem_c (inL_17 (List.mem_of_getElem? (i := 9) rfl)) (mem_c (inL_17 (List.mem_of_getElem? (i := 10) rfl)) (mem_c (inL_17 (List.mem_of_getElem? (i := 11) rfl)) (mem_c (inL_17 (List.mem_of_getElem? (i := 12) rfl)) (mem_c (inL_17 (List.mem_of_getElem? (i := 13) rfl)) (mem_c (inL_17 (List.mem_of_getElem? (i := 14) rfl)) (mem_c (inL_17 (List.mem_of_getElem? (i := 15) rfl)) (mem_c (inL_17 (List.mem_of_getElem? (i := 16) rfl)) (mem_c (inL_17 (List.mem_of_getElem? (i := 17) rfl)) (mem_c (inL_17 (List.mem_of_getElem? (i := 18) rfl)) (mem_c (inL_17 (List.mem_of_getElem? (i := 19) rfl)) (mem_c (inL_17 (List.mem_of_getElem? (i := 20) rfl)) (mem_c (inL_17 (List.mem_of_getElem? (i := 21) rfl)) (mem_c (inL_17 (List.mem_of_getElem? (i := 22) rfl)) (mem_c (inL_17 (List.mem_of_getElem? (i := 23) rfl)) (mem_c (inL_18 (List.mem_of_getElem? (i := 0) rfl)) (mem_c (inL_18 (List.mem_of_getElem? (i := 1) rfl)) (mem_c (inL_18 (List.mem_of_getElem? (i := 2) rfl)) (mem_c (inL_18 (List.mem_of_getElem? (i := 3) rfl)) (mem_c (inL_18 (List.mem_of_getElem? (i := 4) rfl)) (mem_c (inL_18 (List.mem_of_getElem? (i := 5) rfl)) (mem_c (inL_18 (List.mem_of_getElem? (i := 6) rfl)) (mem_c (inL_18 (List.mem_of_getElem? (i := 7) rfl)) (mem_c (inL_18 (List.mem_of_getElem? (i := 8) rfl)) (fun w h => absurd h List.not_mem_nil))))))))))))))))))))))))) (mem_app (mem_c (inL_18 (List.mem_of_getElem? (i := 9) rfl)) (mem_c (inL_18 (List.mem_of_getElem? (i := 10) rfl)) (mem_c (inL_18 (List.mem_of_getElem? (i := 11) rfl)) (mem_c (inL_18 (List.mem_of_getElem? (i := 12) rfl)) (mem_c (inL_18 (List.mem_of_getElem? (i := 13) rfl)) (mem_c (inL_18 (List.mem_of_getElem? (i := 14) rfl)) (mem_c (inL_18 (List.mem_of_getElem? (i := 15) rfl)) (mem_c (inL_18 (List.mem_of_getElem? (i := 16) rfl)) (mem_c (inL_18 (List.mem_of_getElem? (i := 17) rfl)) (mem_c (inL_18 (List.mem_of_getElem? (i := 18) rfl)) (mem_c (inL_18 (List.mem_of_getElem? (i := 19) rfl)) (mem_c (inL_18 (List.mem_of_getElem? (i := 20) rfl)) (mem_c (inL_18 (List.mem_of_getElem? (i := 21) rfl)) (mem_c (inL_18 (List.mem_of_getElem? (i := 22) rfl)) (mem_c (inL_18 (List.mem_of_getElem? (i := 23) rfl)) (mem_c (inL_19 (List.mem_of_getElem? (i := 0) rfl)) (mem_c (inL_19 (List.mem_of_getElem? (i := 1) rfl)) (mem_c (inL_19 (List.mem_of_getElem? (i := 2) rfl)) (mem_c (inL_19 (List.mem_of_getElem? (i := 3) rfl)) (mem_c (inL_19 (List.mem_of_getElem? (i := 4) rfl)) (mem_c (inL_19 (List.mem_of_getElem? (i := 5) rfl)) (mem_c (inL_19 (List.mem_of_getElem? (i := 6) rfl)) (mem_c (inL_19 (List.mem_of_getElem? (i := 7) rfl)) (mem_c (inL_19 (List.mem_of_getElem? (i := 8) rfl)) (fun w h => absurd h List.not_mem_nil))))))))))))))))))))))))) (mem_c (inL_19 (List.mem_of_getElem? (i := 9) rfl)) (mem_c (inL_19 (List.mem_of_getElem? (i := 10) rfl)) (mem_c (inL_19 (List.mem_of_getElem? (i := 11) rfl)) (mem_c (inL_19 (List.mem_of_getElem? (i := 12) rfl)) (mem_c (inL_19 (List.mem_of_getElem? (i := 13) rfl)) (mem_c (inL_19 (List.mem_of_getElem? (i := 14) rfl)) (mem_c (inL_19 (List.mem_of_getElem? (i := 15) rfl)) (mem_c (inL_2 (List.mem_of_getElem? (i := 14) rfl)) (mem_c (inL_19 (List.mem_of_getElem? (i := 16) rfl)) (mem_c (inL_5 (List.mem_of_getElem? (i := 1) rfl)) (mem_c (inL_4 (List.mem_of_getElem? (i := 20) rfl)) (mem_c (inL_4 (List.mem_of_getElem? (i := 22) rfl)) (mem_c (inL_4 (List.mem_of_getElem? (i := 23) rfl)) (mem_c (inL_5 (List.mem_of_getElem? (i := 0) rfl)) (fun w h => absurd h List.not_mem_nil))))))))))))))))))))) inlX11) inlX9) inlX0) inlX7) inlX6) inlX10)) (by decide +kernel)
set_option maxRecDepth 20000 in
theorem gL_law_X11_skipper : GoodIn wsL_law (wsV RL 46 RX11 yX11_skipper wsX11_skipper) := goodIn_app (goodIn_sub (mem_c (inL_14 (List.mem_of_getElem? (i := 3) rfl)) (mem_c (inL_14 (List.mem_of_getElem? (i := 4) rfl)) (mem_c (inL_14 (List.mem_of_getElem? (i := 5) rfl)) (mem_c (inL_1 (List.mem_of_getElem? (i := 2) rfl)) (fun w h => absurd h List.not_mem_nil))))) (by decide +kernel)) ggL_law_X11_skipper
set_option maxRecDepth 20000 in
theorem ggL_law_X12_skipper : GoodIn wsL_law wsX12_skipper := goodIn_sub (mem_c (inL_19 (List.mem_of_getElem? (i := 20) rfl)) (mem_app (mem_app (mem_c (inL_19 (List.mem_of_getElem? (i := 21) rfl)) (mem_c (inL_8 (List.mem_of_getElem? (i := 5) rfl)) (mem_c (inL_8 (List.mem_of_getElem? (i := 7) rfl)) (mem_c (inL_19 (List.mem_of_getElem? (i := 22) rfl)) (mem_c (inL_8 (List.mem_of_getElem? (i := 6) rfl)) (mem_c (inL_19 (List.mem_of_getElem? (i := 23) rfl)) (mem_c (inL_20 (List.mem_of_getElem? (i := 0) rfl)) (mem_c (inL_20 (List.mem_of_getElem? (i := 1) rfl)) (mem_c (inL_1 (List.mem_of_getElem? (i := 5) rfl)) (mem_c (inL_20 (List.mem_of_getElem? (i := 2) rfl)) (mem_c (inL_10 (List.mem_of_getElem? (i := 14) rfl)) (mem_c (inL_20 (List.mem_of_getElem? (i := 3) rfl)) (mem_c (inL_20 (List.mem_of_getElem? (i := 4) rfl)) (mem_c (inL_13 (List.mem_of_getElem? (i := 2) rfl)) (mem_c (inL_13 (List.mem_of_getElem? (i := 3) rfl)) (mem_c (inL_13 (List.mem_of_getElem? (i := 4) rfl)) (mem_c (inL_11 (List.mem_of_getElem? (i := 14) rfl)) (mem_c (inL_11 (List.mem_of_getElem? (i := 15) rfl)) (mem_c (inL_11 (List.mem_of_getElem? (i := 16) rfl)) (mem_c (inL_20 (List.mem_of_getElem? (i := 5) rfl)) (mem_c (inL_20 (List.mem_of_getElem? (i := 6) rfl)) (mem_c (inL_20 (List.mem_of_getElem? (i := 7) rfl)) (mem_c (inL_20 (List.mem_of_getElem? (i := 8) rfl)) (mem_c (inL_20 (List.mem_of_getElem? (i := 9) rfl)) (fun w h => absurd h List.not_mem_nil))))))))))))))))))))))))) (mem_app (mem_c (inL_20 (List.mem_of_getElem? (i := 10) rfl)) (mem_c (inL_20 (List.mem_of_getElem? (i := 11) rfl)) (mem_c (inL_20 (List.mem_of_getElem? (i := 12) rfl)) (mem_c (inL_20 (List.mem_of_getElem? (i := 13) rfl)) (mem_c (inL_20 (List.mem_of_getElem? (i := 14) rfl)) (mem_c (inL_20 (List.mem_of_getElem? (i := 15) rfl)) (mem_c (inL_8 (List.mem_of_getElem? (i := 4) rfl)) (mem_c (inL_20 (List.mem_of_getElem? (i := 16) rfl)) (mem_c (inL_20 (List.mem_of_getElem? (i := 17) rfl)) (mem_c (inL_20 (List.mem_of_getElem? (i := 18) rfl)) (mem_c (inL_20 (List.mem_of_getElem? (i := 19) rfl)) (mem_c (inL_20 (List.mem_of_getElem? (i := 20) rfl)) (mem_c (inL_20 (List.mem_of_getElem? (i := 21) rfl)) (mem_c (inL_20 (List.mem_of_getElem? (i := 22) rfl)) (mem_c (inL_20 (List.mem_of_getElem? (i := 23) rfl)) (mem_c (inL_16 (List.mem_of_getElem? (i := 14) rfl)) (mem_c (inL_16 (List.mem_of_getElem? (i := 15) rfl)) (mem_c (inL_16 (List.mem_of_getElem? (i := 16) rfl)) (mem_c (inL_16 (List.mem_of_getElem? (i := 17) rfl)) (mem_c (inL_16 (List.mem_of_getElem? (i := 18) rfl)) (mem_c (inL_16 (List.mem_of_getElem? (i := 19) rfl)) (mem_c (inL_16 (List.mem_of_getElem? (i := 20) rfl)) (mem_c (inL_16 (List.mem_of_getElem? (i := 21) rfl)) (mem_c (inL_16 (List.mem_of_getElem? (i := 22) rfl)) (fun w h => absurd h List.not_mem_nil))))))))))))))))))))))))) (mem_app (mem_c (inL_16 (List.mem_of_getElem? (i := 23) rfl)) (mem_c (inL_17 (List.mem_of_getElem? (i := 0) rfl)) (mem_c (inL_21 (List.mem_of_getElem? (i := 0) rfl)) (mem_c (inL_17 (List.mem_of_getElem? (i := 2) rfl)) (mem_c (inL_17 (List.mem_of_getElem? (i := 3) rfl)) (mem_c (inL_17 (List.mem_of_getElem? (i := 4) rfl)) (mem_c (inL_17 (List.mem_of_getElem? (i := 5) rfl)) (mem_c (inL_17 (List.mem_of_getElem? (i := 6) rfl)) (mem_c (inL_17 (List.mem_of_getElem? (i := 7) rfl)) (mem_c (inL_17 (List.mem_of_getElem? (i := 8) rfl)) (mem_c (inL_17 (List.mem_of_getElem? (i := 9) rfl)) (mem_c (inL_17 (List.mem_of_getElem? (i := 10) rfl)) (mem_c (inL_17 (List.mem_of_getElem? (i := 11) rfl)) (mem_c (inL_17 (List.mem_of_getElem? (i := 12) rfl)) (mem_c (inL_17 (List.mem_of_getElem? (i := 13) rfl)) (mem_c (inL_17 (List.mem_of_getElem? (i := 14) rfl)) (mem_c (inL_17 (List.mem_of_getElem? (i := 15) rfl)) (mem_c (inL_17 (List.mem_of_getElem? (i := 16) rfl)) (mem_c (inL_17 (List.mem_of_getElem? (i := 17) rfl)) (mem_c (inL_17 (List.mem_of_getElem? (i := 18) rfl)) (mem_c (inL_17 (List.mem_of_getElem? (i := 19) rfl)) (mem_c (inL_17 (List.mem_of_getElem? (i := 20) rfl)) (mem_c (inL_17 (List.mem_of_getElem? (i := 21) rfl)) (mem_c (inL_17 (List.mem_of_getElem? (i := 22) rfl)) (fun w h => absurd h List.not_mem_nil))))))))))))))))))))))))) (mem_app (mem_c (inL_17 (List.mem_of_getElem? (i := 23) rfl)) (mem_c (inL_18 (List.mem_of_getElem? (i := 0) rfl)) (mem_c (inL_18 (List.mem_of_getElem? (i := 1) rfl)) (mem_c (inL_18 (List.mem_of_getElem? (i := 2) rfl)) (mem_c (inL_18 (List.mem_of_getElem? (i := 3) rfl)) (mem_c (inL_18 (List.mem_of_getElem? (i := 4) rfl)) (mem_c (inL_18 (List.mem_of_getElem? (i := 5) rfl)) (mem_c (inL_18 (List.mem_of_getElem? (i := 6) rfl)) (mem_c (inL_18 (List.mem_of_getElem? (i := 7) rfl)) (mem_c (inL_18 (List.mem_of_getElem? (i := 8) rfl)) (mem_c (inL_18 (List.mem_of_getElem? (i := 9) rfl)) (mem_c (inL_18 (List.mem_of_getElem? (i := 10) rfl)) (mem_c (inL_18 (List.mem_of_getElem? (i := 11) rfl)) (mem_c (inL_18 (List.mem_of_getElem? (i := 12) rfl)) (mem_c (inL_18 (List.mem_of_getElem? (i := 13) rfl)) (mem_c (inL_21 (List.mem_of_getElem? (i := 1) rfl)) (mem_c (inL_21 (List.mem_of_getElem? (i := 2) rfl)) (mem_c (inL_21 (List.mem_of_getElem? (i := 3) rfl)) (mem_c (inL_21 (List.mem_of_getElem? (i := 4) rfl)) (mem_c (inL_21 (List.mem_of_getElem? (i := 5) rfl)) (mem_c (inL_21 (List.mem_of_getElem? (i := 6) rfl)) (mem_c (inL_21 (List.mem_of_getElem? (i := 7) rfl)) (mem_c (inL_21 (List.mem_of_getElem? (i := 8) rfl)) (mem_c (inL_21 (List.mem_of_getElem? (i := 9) rfl)) (fun w h => absurd h List.not_mem_nil))))))))))))))))))))))))) (mem_c (inL_21 (List.mem_of_getElem? (i := 10) rfl)) (mem_c (inL_21 (List.mem_of_getElem? (i := 11) rfl)) (mem_c (inL_21 (List.mem_of_getElem? (i := 12) rfl)) (mem_c (inL_21 (List.mem_of_getElem? (i := 13) rfl)) (mem_c (inL_21 (List.mem_of_getElem? (i := 14) rfl)) (mem_c (inL_21 (List.mem_of_getElem? (i := 15) rfl)) (mem_c (inL_21 (List.mem_of_getElem? (i := 16) rfl)) (mem_c (inL_21 (List.mem_of_getElem? (i := 17) rfl)) (mem_c (inL_21 (List.mem_of_getElem? (i := 18) rfl)) (mem_c (inL_21 (List.mem_of_getElem? (i := 19) rfl)) (mem_c (inL_21 (List.mem_of_getElem? (i := 20) rfl)) (fun w h => absurd h List.not_mem_nil)))))))))))))))) inlX12)) (by decide +kernel)
set_option maxRecDepth 20000 in
theorem gL_law_X12_skipper : GoodIn wsL_law (wsV RL 49 RX12 yX12_skipper wsX12_skipper) := goodIn_app (goodIn_sub (mem_c (inL_19 (List.mem_of_getElem? (i := 17) rfl)) (mem_c (inL_19 (List.mem_of_getElem? (i := 18) rfl)) (mem_c (inL_19 (List.mem_of_getElem? (i := 19) rfl)) (mem_c (inL_1 (List.mem_of_getElem? (i := 5) rfl)) (fun w h => absurd h List.not_mem_nil))))) (by decide +kernel)) ggL_law_X12_skipper
set_option maxRecDepth 20000 in
theorem ggL_law_X11_insurer : GoodIn wsL_law wsX11_insurer := goodIn_sub (mem_c (inL_22 (List.mem_of_getElem? (i := 0) rfl)) (mem_app (mem_app (mem_app (mem_app (mem_app (mem_app (mem_app (mem_c (inL_1 (List.mem_of_getElem? (i := 19) rfl)) (mem_c (inL_2 (List.mem_of_getElem? (i := 19) rfl)) (mem_c (inL_1 (List.mem_of_getElem? (i := 15) rfl)) (mem_c (inL_10 (List.mem_of_getElem? (i := 5) rfl)) (mem_c (inL_2 (List.mem_of_getElem? (i := 1) rfl)) (mem_c (inL_22 (List.mem_of_getElem? (i := 1) rfl)) (mem_c (inL_22 (List.mem_of_getElem? (i := 2) rfl)) (mem_c (inL_11 (List.mem_of_getElem? (i := 7) rfl)) (mem_c (inL_11 (List.mem_of_getElem? (i := 8) rfl)) (mem_c (inL_1 (List.mem_of_getElem? (i := 2) rfl)) (mem_c (inL_11 (List.mem_of_getElem? (i := 9) rfl)) (mem_c (inL_22 (List.mem_of_getElem? (i := 3) rfl)) (mem_c (inL_22 (List.mem_of_getElem? (i := 4) rfl)) (mem_c (inL_22 (List.mem_of_getElem? (i := 5) rfl)) (mem_c (inL_1 (List.mem_of_getElem? (i := 18) rfl)) (mem_c (inL_22 (List.mem_of_getElem? (i := 6) rfl)) (mem_c (inL_3 (List.mem_of_getElem? (i := 12) rfl)) (mem_c (inL_14 (List.mem_of_getElem? (i := 14) rfl)) (mem_c (inL_22 (List.mem_of_getElem? (i := 7) rfl)) (mem_c (inL_22 (List.mem_of_getElem? (i := 8) rfl)) (mem_c (inL_22 (List.mem_of_getElem? (i := 9) rfl)) (mem_c (inL_22 (List.mem_of_getElem? (i := 10) rfl)) (mem_c (inL_2 (List.mem_of_getElem? (i := 18) rfl)) (mem_c (inL_22 (List.mem_of_getElem? (i := 11) rfl)) (fun w h => absurd h List.not_mem_nil))))))))))))))))))))))))) (mem_app (mem_c (inL_5 (List.mem_of_getElem? (i := 6) rfl)) (mem_c (inL_5 (List.mem_of_getElem? (i := 7) rfl)) (mem_c (inL_5 (List.mem_of_getElem? (i := 8) rfl)) (mem_c (inL_5 (List.mem_of_getElem? (i := 9) rfl)) (mem_c (inL_14 (List.mem_of_getElem? (i := 15) rfl)) (mem_c (inL_14 (List.mem_of_getElem? (i := 16) rfl)) (mem_c (inL_14 (List.mem_of_getElem? (i := 17) rfl)) (mem_c (inL_14 (List.mem_of_getElem? (i := 18) rfl)) (mem_c (inL_3 (List.mem_of_getElem? (i := 7) rfl)) (mem_c (inL_3 (List.mem_of_getElem? (i := 8) rfl)) (mem_c (inL_14 (List.mem_of_getElem? (i := 19) rfl)) (mem_c (inL_14 (List.mem_of_getElem? (i := 20) rfl)) (mem_c (inL_14 (List.mem_of_getElem? (i := 21) rfl)) (mem_c (inL_3 (List.mem_of_getElem? (i := 11) rfl)) (mem_c (inL_14 (List.mem_of_getElem? (i := 22) rfl)) (mem_c (inL_3 (List.mem_of_getElem? (i := 20) rfl)) (mem_c (inL_14 (List.mem_of_getElem? (i := 23) rfl)) (mem_c (inL_15 (List.mem_of_getElem? (i := 0) rfl)) (mem_c (inL_15 (List.mem_of_getElem? (i := 1) rfl)) (mem_c (inL_15 (List.mem_of_getElem? (i := 2) rfl)) (mem_c (inL_3 (List.mem_of_getElem? (i := 18) rfl)) (mem_c (inL_3 (List.mem_of_getElem? (i := 21) rfl)) (mem_c (inL_3 (List.mem_of_getElem? (i := 17) rfl)) (mem_c (inL_15 (List.mem_of_getElem? (i := 3) rfl)) (fun w h => absurd h List.not_mem_nil))))))))))))))))))))))))) (mem_app (mem_c (inL_15 (List.mem_of_getElem? (i := 4) rfl)) (mem_c (inL_15 (List.mem_of_getElem? (i := 5) rfl)) (mem_c (inL_15 (List.mem_of_getElem? (i := 6) rfl)) (mem_c (inL_15 (List.mem_of_getElem? (i := 7) rfl)) (mem_c (inL_15 (List.mem_of_getElem? (i := 8) rfl)) (mem_c (inL_15 (List.mem_of_getElem? (i := 9) rfl)) (mem_c (inL_15 (List.mem_of_getElem? (i := 10) rfl)) (mem_c (inL_1 (List.mem_of_getElem? (i := 14) rfl)) (mem_c (inL_15 (List.mem_of_getElem? (i := 11) rfl)) (mem_c (inL_3 (List.mem_of_getElem? (i := 2) rfl)) (mem_c (inL_3 (List.mem_of_getElem? (i := 1) rfl)) (mem_c (inL_15 (List.mem_of_getElem? (i := 12) rfl)) (mem_c (inL_15 (List.mem_of_getElem? (i := 13) rfl)) (mem_c (inL_15 (List.mem_of_getElem? (i := 14) rfl)) (mem_c (inL_15 (List.mem_of_getElem? (i := 15) rfl)) (mem_c (inL_15 (List.mem_of_getElem? (i := 16) rfl)) (mem_c (inL_15 (List.mem_of_getElem? (i := 17) rfl)) (mem_c (inL_15 (List.mem_of_getElem? (i := 18) rfl)) (mem_c (inL_15 (List.mem_of_getElem? (i := 19) rfl)) (mem_c (inL_15 (List.mem_of_getElem? (i := 20) rfl)) (mem_c (inL_15 (List.mem_of_getElem? (i := 21) rfl)) (mem_c (inL_15 (List.mem_of_getElem? (i := 22) rfl)) (mem_c (inL_15 (List.mem_of_getElem? (i := 23) rfl)) (mem_c (inL_16 (List.mem_of_getElem? (i := 0) rfl)) (fun w h => absurd h List.not_mem_nil))))))))))))))))))))))))) (mem_app (mem_c (inL_16 (List.mem_of_getElem? (i := 1) rfl)) (mem_c (inL_16 (List.mem_of_getElem? (i := 2) rfl)) (mem_c (inL_16 (List.mem_of_getElem? (i := 3) rfl)) (mem_c (inL_16 (List.mem_of_getElem? (i := 4) rfl)) (mem_c (inL_3 (List.mem_of_getElem? (i := 19) rfl)) (mem_c (inL_22 (List.mem_of_getElem? (i := 12) rfl)) (mem_c (inL_22 (List.mem_of_getElem? (i := 13) rfl)) (mem_c (inL_22 (List.mem_of_getElem? (i := 14) rfl)) (mem_c (inL_22 (List.mem_of_getElem? (i := 15) rfl)) (mem_c (inL_22 (List.mem_of_getElem? (i := 16) rfl)) (mem_c (inL_22 (List.mem_of_getElem? (i := 17) rfl)) (mem_c (inL_22 (List.mem_of_getElem? (i := 18) rfl)) (mem_c (inL_16 (List.mem_of_getElem? (i := 9) rfl)) (mem_c (inL_16 (List.mem_of_getElem? (i := 10) rfl)) (mem_c (inL_16 (List.mem_of_getElem? (i := 11) rfl)) (mem_c (inL_16 (List.mem_of_getElem? (i := 12) rfl)) (mem_c (inL_16 (List.mem_of_getElem? (i := 13) rfl)) (mem_c (inL_16 (List.mem_of_getElem? (i := 14) rfl)) (mem_c (inL_16 (List.mem_of_getElem? (i := 15) rfl)) (mem_c (inL_16 (List.mem_of_getElem? (i := 16) rfl)) (mem_c (inL_16 (List.mem_of_getElem? (i := 17) rfl)) (mem_c (inL_16 (List.mem_of_getElem? (i := 18) rfl)) (mem_c (inL_16 (List.mem_of_getElem? (i := 19) rfl)) (mem_c (inL_16 (List.mem_of_getElem? (i := 20) rfl)) (fun w h => absurd h List.not_mem_nil))))))))))))))))))))))))) (mem_app (mem_c (inL_16 (List.mem_of_getElem? (i := 21) rfl)) (mem_c (inL_16 (List.mem_of_getElem? (i := 22) rfl)) (mem_c (inL_16 (List.mem_of_getElem? (i := 23) rfl)) (mem_c (inL_17 (List.mem_of_getElem? (i := 0) rfl)) (mem_c (inL_17 (List.mem_of_getElem? (i := 1) rfl)) (mem_c (inL_17 (List.mem_of_getElem? (i := 2) rfl)) (mem_c (inL_17 (List.mem_of_getElem? (i := 3) rfl)) (mem_c (inL_17 (List.mem_of_getElem? (i := 4) rfl)) (mem_c (inL_17 (List.mem_of_getElem? (i := 5) rfl)) (mem_c (inL_17 (List.mem_of_getElem? (i := 6) rfl)) (mem_c (inL_17 (List.mem_of_getElem? (i := 7) rfl)) (mem_c (inL_17 (List.mem_of_getElem? (i := 8) rfl)) (mem_c (inL_17 (List.mem_of_getElem? (i := 9) rfl)) (mem_c (inL_17 (List.mem_of_getElem? (i := 10) rfl)) (mem_c (inL_17 (List.mem_of_getElem? (i := 11) rfl)) (mem_c (inL_17 (List.mem_of_getElem? (i := 12) rfl)) (mem_c (inL_17 (List.mem_of_getElem? (i := 13) rfl)) (mem_c (inL_17 (List.mem_of_getElem? (i := 14) rfl)) (mem_c (inL_17 (List.mem_of_getElem? (i := 15) rfl)) (mem_c (inL_17 (List.mem_of_getElem? (i := 16) rfl)) (mem_c (inL_17 (List.mem_of_getElem? (i := 17) rfl)) (mem_c (inL_17 (List.mem_of_getElem? (i := 18) rfl)) (mem_c (inL_17 (List.mem_of_getElem? (i := 19) rfl)) (mem_c (inL_17 (List.mem_of_getElem? (i := 20) rfl)) (fun w h => absurd h List.not_mem_nil))))))))))))))))))))))))) (mem_app (mem_c (inL_17 (List.mem_of_getElem? (i := 21) rfl)) (mem_c (inL_17 (List.mem_of_getElem? (i := 22) rfl)) (mem_c (inL_17 (List.mem_of_getElem? (i := 23) rfl)) (mem_c (inL_18 (List.mem_of_getElem? (i := 0) rfl)) (mem_c (inL_18 (List.mem_of_getElem? (i := 1) rfl)) (mem_c (inL_18 (List.mem_of_getElem? (i := 2) rfl)) (mem_c (inL_18 (List.mem_of_getElem? (i := 3) rfl)) (mem_c (inL_18 (List.mem_of_getElem? (i := 4) rfl)) (mem_c (inL_18 (List.mem_of_getElem? (i := 5) rfl)) (mem_c (inL_18 (List.mem_of_getElem? (i := 6) rfl)) (mem_c (inL_18 (List.mem_of_getElem? (i := 7) rfl)) (mem_c (inL_18 (List.mem_of_getElem? (i := 8) rfl)) (mem_c (inL_18 (List.mem_of_getElem? (i := 9) rfl)) (mem_c (inL_18 (List.mem_of_getElem? (i := 10) rfl)) (mem_c (inL_18 (List.mem_of_getElem? (i := 11) rfl)) (mem_c (inL_18 (List.mem_of_getElem? (i := 12) rfl)) (mem_c (inL_18 (List.mem_of_getElem? (i := 13) rfl)) (mem_c (inL_18 (List.mem_of_getElem? (i := 14) rfl)) (mem_c (inL_18 (List.mem_of_getElem? (i := 15) rfl)) (mem_c (inL_18 (List.mem_of_getElem? (i := 16) rfl)) (mem_c (inL_18 (List.mem_of_getElem? (i := 17) rfl)) (mem_c (inL_18 (List.mem_of_getElem? (i := 18) rfl)) (mem_c (inL_22 (List.mem_of_getElem? (i := 19) rfl)) (mem_c (inL_22 (List.mem_of_getElem? (i := 20) rfl)) (fun w h => absurd h List.not_mem_nil))))))))))))))))))))))))) (mem_app (mem_c (inL_22 (List.mem_of_getElem? (i := 21) rfl)) (mem_c (inL_22 (List.mem_of_getElem? (i := 22) rfl)) (mem_c (inL_22 (List.mem_of_getElem? (i := 23) rfl)) (mem_c (inL_18 (List.mem_of_getElem? (i := 19) rfl)) (mem_c (inL_19 (List.mem_of_getElem? (i := 5) rfl)) (mem_c (inL_19 (List.mem_of_getElem? (i := 6) rfl)) (mem_c (inL_19 (List.mem_of_getElem? (i := 7) rfl)) (mem_c (inL_19 (List.mem_of_getElem? (i := 8) rfl)) (mem_c (inL_19 (List.mem_of_getElem? (i := 0) rfl)) (mem_c (inL_19 (List.mem_of_getElem? (i := 1) rfl)) (mem_c (inL_19 (List.mem_of_getElem? (i := 2) rfl)) (mem_c (inL_19 (List.mem_of_getElem? (i := 3) rfl)) (mem_c (inL_19 (List.mem_of_getElem? (i := 4) rfl)) (mem_c (inL_23 (List.mem_of_getElem? (i := 0) rfl)) (mem_c (inL_23 (List.mem_of_getElem? (i := 1) rfl)) (mem_c (inL_23 (List.mem_of_getElem? (i := 2) rfl)) (mem_c (inL_23 (List.mem_of_getElem? (i := 3) rfl)) (mem_c (inL_23 (List.mem_of_getElem? (i := 4) rfl)) (mem_c (inL_23 (List.mem_of_getElem? (i := 5) rfl)) (mem_c (inL_23 (List.mem_of_getElem? (i := 6) rfl)) (mem_c (inL_23 (List.mem_of_getElem? (i := 7) rfl)) (mem_c (inL_19 (List.mem_of_getElem? (i := 9) rfl)) (mem_c (inL_19 (List.mem_of_getElem? (i := 10) rfl)) (mem_c (inL_19 (List.mem_of_getElem? (i := 11) rfl)) (fun w h => absurd h List.not_mem_nil))))))))))))))))))))))))) (mem_c (inL_19 (List.mem_of_getElem? (i := 12) rfl)) (mem_c (inL_23 (List.mem_of_getElem? (i := 8) rfl)) (mem_c (inL_23 (List.mem_of_getElem? (i := 9) rfl)) (mem_c (inL_23 (List.mem_of_getElem? (i := 10) rfl)) (mem_c (inL_23 (List.mem_of_getElem? (i := 11) rfl)) (fun w h => absurd h List.not_mem_nil))))))))))))) inlX11) inlX9) inlX0) inlX1) inlX6) inlX10)) (by decide +kernel)
set_option maxRecDepth 20000 in
theorem gL_law_X11_insurer : GoodIn wsL_law (wsV RL 50 RX11 yX11_insurer wsX11_insurer) := goodIn_app (goodIn_sub (mem_c (inL_21 (List.mem_of_getElem? (i := 21) rfl)) (mem_c (inL_21 (List.mem_of_getElem? (i := 22) rfl)) (mem_c (inL_21 (List.mem_of_getElem? (i := 23) rfl)) (mem_c (inL_1 (List.mem_of_getElem? (i := 2) rfl)) (fun w h => absurd h List.not_mem_nil))))) (by decide +kernel)) ggL_law_X11_insurer
set_option maxRecDepth 20000 in
theorem ggL_law_X12_insurer : GoodIn wsL_law wsX12_insurer := goodIn_sub (mem_c (inL_23 (List.mem_of_getElem? (i := 15) rfl)) (mem_app (mem_app (mem_c (inL_19 (List.mem_of_getElem? (i := 21) rfl)) (mem_c (inL_8 (List.mem_of_getElem? (i := 5) rfl)) (mem_c (inL_8 (List.mem_of_getElem? (i := 9) rfl)) (mem_c (inL_8 (List.mem_of_getElem? (i := 10) rfl)) (mem_c (inL_8 (List.mem_of_getElem? (i := 11) rfl)) (mem_c (inL_19 (List.mem_of_getElem? (i := 22) rfl)) (mem_c (inL_20 (List.mem_of_getElem? (i := 10) rfl)) (mem_c (inL_8 (List.mem_of_getElem? (i := 8) rfl)) (mem_c (inL_19 (List.mem_of_getElem? (i := 23) rfl)) (mem_c (inL_20 (List.mem_of_getElem? (i := 0) rfl)) (mem_c (inL_20 (List.mem_of_getElem? (i := 1) rfl)) (mem_c (inL_1 (List.mem_of_getElem? (i := 5) rfl)) (mem_c (inL_20 (List.mem_of_getElem? (i := 2) rfl)) (mem_c (inL_10 (List.mem_of_getElem? (i := 14) rfl)) (mem_c (inL_20 (List.mem_of_getElem? (i := 3) rfl)) (mem_c (inL_20 (List.mem_of_getElem? (i := 4) rfl)) (mem_c (inL_13 (List.mem_of_getElem? (i := 2) rfl)) (mem_c (inL_13 (List.mem_of_getElem? (i := 3) rfl)) (mem_c (inL_13 (List.mem_of_getElem? (i := 4) rfl)) (mem_c (inL_11 (List.mem_of_getElem? (i := 14) rfl)) (mem_c (inL_11 (List.mem_of_getElem? (i := 15) rfl)) (mem_c (inL_11 (List.mem_of_getElem? (i := 16) rfl)) (mem_c (inL_20 (List.mem_of_getElem? (i := 5) rfl)) (mem_c (inL_20 (List.mem_of_getElem? (i := 6) rfl)) (fun w h => absurd h List.not_mem_nil))))))))))))))))))))))))) (mem_app (mem_c (inL_20 (List.mem_of_getElem? (i := 7) rfl)) (mem_c (inL_20 (List.mem_of_getElem? (i := 8) rfl)) (mem_c (inL_20 (List.mem_of_getElem? (i := 9) rfl)) (mem_c (inL_20 (List.mem_of_getElem? (i := 11) rfl)) (mem_c (inL_20 (List.mem_of_getElem? (i := 12) rfl)) (mem_c (inL_20 (List.mem_of_getElem? (i := 13) rfl)) (mem_c (inL_20 (List.mem_of_getElem? (i := 14) rfl)) (mem_c (inL_20 (List.mem_of_getElem? (i := 15) rfl)) (mem_c (inL_8 (List.mem_of_getElem? (i := 4) rfl)) (mem_c (inL_20 (List.mem_of_getElem? (i := 16) rfl)) (mem_c (inL_20 (List.mem_of_getElem? (i := 17) rfl)) (mem_c (inL_20 (List.mem_of_getElem? (i := 18) rfl)) (mem_c (inL_20 (List.mem_of_getElem? (i := 19) rfl)) (mem_c (inL_20 (List.mem_of_getElem? (i := 20) rfl)) (mem_c (inL_20 (List.mem_of_getElem? (i := 21) rfl)) (mem_c (inL_20 (List.mem_of_getElem? (i := 22) rfl)) (mem_c (inL_20 (List.mem_of_getElem? (i := 23) rfl)) (mem_c (inL_16 (List.mem_of_getElem? (i := 14) rfl)) (mem_c (inL_16 (List.mem_of_getElem? (i := 15) rfl)) (mem_c (inL_16 (List.mem_of_getElem? (i := 16) rfl)) (mem_c (inL_16 (List.mem_of_getElem? (i := 17) rfl)) (mem_c (inL_16 (List.mem_of_getElem? (i := 18) rfl)) (mem_c (inL_16 (List.mem_of_getElem? (i := 19) rfl)) (mem_c (inL_16 (List.mem_of_getElem? (i := 20) rfl)) (fun w h => absurd h List.not_mem_nil))))))))))))))))))))))))) (mem_app (mem_c (inL_16 (List.mem_of_getElem? (i := 21) rfl)) (mem_c (inL_16 (List.mem_of_getElem? (i := 22) rfl)) (mem_c (inL_16 (List.mem_of_getElem? (i := 23) rfl)) (mem_c (inL_17 (List.mem_of_getElem? (i := 0) rfl)) (mem_c (inL_21 (List.mem_of_getElem? (i := 0) rfl)) (mem_c (inL_17 (List.mem_of_getElem? (i := 2) rfl)) (mem_c (inL_17 (List.mem_of_getElem? (i := 3) rfl)) (mem_c (inL_17 (List.mem_of_getElem? (i := 4) rfl)) (mem_c (inL_17 (List.mem_of_getElem? (i := 5) rfl)) (mem_c (inL_17 (List.mem_of_getElem? (i := 6) rfl)) (mem_c (inL_17 (List.mem_of_getElem? (i := 7) rfl)) (mem_c (inL_17 (List.mem_of_getElem? (i := 8) rfl)) (mem_c (inL_17 (List.mem_of_getElem? (i := 9) rfl)) (mem_c (inL_17 (List.mem_of_getElem? (i := 10) rfl)) (mem_c (inL_17 (List.mem_of_getElem? (i := 11) rfl)) (mem_c (inL_17 (List.mem_of_getElem? (i := 12) rfl)) (mem_c (inL_17 (List.mem_of_getElem? (i := 13) rfl)) (mem_c (inL_17 (List.mem_of_getElem? (i := 14) rfl)) (mem_c (inL_17 (List.mem_of_getElem? (i := 15) rfl)) (mem_c (inL_17 (List.mem_of_getElem? (i := 16) rfl)) (mem_c (inL_17 (List.mem_of_getElem? (i := 17) rfl)) (mem_c (inL_17 (List.mem_of_getElem? (i := 18) rfl)) (mem_c (inL_17 (List.mem_of_getElem? (i := 19) rfl)) (mem_c (inL_17 (List.mem_of_getElem? (i := 20) rfl)) (fun w h => absurd h List.not_mem_nil))))))))))))))))))))))))) (mem_app (mem_c (inL_17 (List.mem_of_getElem? (i := 21) rfl)) (mem_c (inL_17 (List.mem_of_getElem? (i := 22) rfl)) (mem_c (inL_17 (List.mem_of_getElem? (i := 23) rfl)) (mem_c (inL_18 (List.mem_of_getElem? (i := 0) rfl)) (mem_c (inL_18 (List.mem_of_getElem? (i := 1) rfl)) (mem_c (inL_18 (List.mem_of_getElem? (i := 2) rfl)) (mem_c (inL_18 (List.mem_of_getElem? (i := 3) rfl)) (mem_c (inL_18 (List.mem_of_getElem? (i := 4) rfl)) (mem_c (inL_18 (List.mem_of_getElem? (i := 5) rfl)) (mem_c (inL_18 (List.mem_of_getElem? (i := 6) rfl)) (mem_c (inL_18 (List.mem_of_getElem? (i := 7) rfl)) (mem_c (inL_18 (List.mem_of_getElem? (i := 8) rfl)) (mem_c (inL_18 (List.mem_of_getElem? (i := 9) rfl)) (mem_c (inL_18 (List.mem_of_getElem? (i := 10) rfl)) (mem_c (inL_18 (List.mem_of_getElem? (i := 11) rfl)) (mem_c (inL_18 (List.mem_of_getElem? (i := 12) rfl)) (mem_c (inL_18 (List.mem_of_getElem? (i := 13) rfl)) (mem_c (inL_21 (List.mem_of_getElem? (i := 1) rfl)) (mem_c (inL_21 (List.mem_of_getElem? (i := 2) rfl)) (mem_c (inL_21 (List.mem_of_getElem? (i := 3) rfl)) (mem_c (inL_23 (List.mem_of_getElem? (i := 16) rfl)) (mem_c (inL_23 (List.mem_of_getElem? (i := 17) rfl)) (mem_c (inL_23 (List.mem_of_getElem? (i := 18) rfl)) (mem_c (inL_23 (List.mem_of_getElem? (i := 19) rfl)) (fun w h => absurd h List.not_mem_nil))))))))))))))))))))))))) (mem_c (inL_21 (List.mem_of_getElem? (i := 8) rfl)) (mem_c (inL_21 (List.mem_of_getElem? (i := 9) rfl)) (mem_c (inL_21 (List.mem_of_getElem? (i := 10) rfl)) (mem_c (inL_21 (List.mem_of_getElem? (i := 11) rfl)) (mem_c (inL_21 (List.mem_of_getElem? (i := 12) rfl)) (mem_c (inL_21 (List.mem_of_getElem? (i := 17) rfl)) (mem_c (inL_21 (List.mem_of_getElem? (i := 18) rfl)) (mem_c (inL_21 (List.mem_of_getElem? (i := 19) rfl)) (mem_c (inL_21 (List.mem_of_getElem? (i := 20) rfl)) (mem_c (inL_21 (List.mem_of_getElem? (i := 13) rfl)) (mem_c (inL_21 (List.mem_of_getElem? (i := 14) rfl)) (mem_c (inL_21 (List.mem_of_getElem? (i := 15) rfl)) (mem_c (inL_21 (List.mem_of_getElem? (i := 16) rfl)) (fun w h => absurd h List.not_mem_nil)))))))))))))))))) inlX12)) (by decide +kernel)
set_option maxRecDepth 20000 in
theorem gL_law_X12_insurer : GoodIn wsL_law (wsV RL 53 RX12 yX12_insurer wsX12_insurer) := goodIn_app (goodIn_sub (mem_c (inL_23 (List.mem_of_getElem? (i := 12) rfl)) (mem_c (inL_23 (List.mem_of_getElem? (i := 13) rfl)) (mem_c (inL_23 (List.mem_of_getElem? (i := 14) rfl)) (mem_c (inL_1 (List.mem_of_getElem? (i := 5) rfl)) (fun w h => absurd h List.not_mem_nil))))) (by decide +kernel)) ggL_law_X12_insurer
set_option maxRecDepth 20000 in
theorem ggL_law_X11_fault : GoodIn wsL_law wsX11_fault := goodIn_sub (mem_c (inL_23 (List.mem_of_getElem? (i := 23) rfl)) (mem_app (mem_app (mem_c (inL_1 (List.mem_of_getElem? (i := 19) rfl)) (mem_c (inL_24 (List.mem_of_getElem? (i := 0) rfl)) (mem_c (inL_24 (List.mem_of_getElem? (i := 1) rfl)) (fun w h => absurd h List.not_mem_nil)))) inlX11) inlX6)) (by decide +kernel)
set_option maxRecDepth 20000 in
theorem gL_law_X11_fault : GoodIn wsL_law (wsV RL 54 RX11 yX11_fault wsX11_fault) := goodIn_app (goodIn_sub (mem_c (inL_23 (List.mem_of_getElem? (i := 20) rfl)) (mem_c (inL_23 (List.mem_of_getElem? (i := 21) rfl)) (mem_c (inL_23 (List.mem_of_getElem? (i := 22) rfl)) (mem_c (inL_1 (List.mem_of_getElem? (i := 2) rfl)) (fun w h => absurd h List.not_mem_nil))))) (by decide +kernel)) ggL_law_X11_fault
set_option maxRecDepth 20000 in
theorem ggL_law_X12_fault : GoodIn wsL_law wsX12_fault := goodIn_sub (mem_c (inL_24 (List.mem_of_getElem? (i := 5) rfl)) (mem_app (mem_c (inL_19 (List.mem_of_getElem? (i := 21) rfl)) (mem_c (inL_8 (List.mem_of_getElem? (i := 5) rfl)) (fun w h => absurd h List.not_mem_nil))) inlX12)) (by decide +kernel)
set_option maxRecDepth 20000 in
theorem gL_law_X12_fault : GoodIn wsL_law (wsV RL 57 RX12 yX12_fault wsX12_fault) := goodIn_app (goodIn_sub (mem_c (inL_24 (List.mem_of_getElem? (i := 2) rfl)) (mem_c (inL_24 (List.mem_of_getElem? (i := 3) rfl)) (mem_c (inL_24 (List.mem_of_getElem? (i := 4) rfl)) (mem_c (inL_1 (List.mem_of_getElem? (i := 5) rfl)) (fun w h => absurd h List.not_mem_nil))))) (by decide +kernel)) ggL_law_X12_fault
set_option maxRecDepth 20000 in
theorem ggL_law_X11_covers : GoodIn wsL_law wsX11_covers := goodIn_sub (mem_c (inL_24 (List.mem_of_getElem? (i := 9) rfl)) (mem_app (mem_app (mem_app (mem_app (mem_c (inL_2 (List.mem_of_getElem? (i := 1) rfl)) (mem_c (inL_22 (List.mem_of_getElem? (i := 1) rfl)) (mem_c (inL_11 (List.mem_of_getElem? (i := 7) rfl)) (mem_c (inL_11 (List.mem_of_getElem? (i := 8) rfl)) (mem_c (inL_1 (List.mem_of_getElem? (i := 2) rfl)) (mem_c (inL_11 (List.mem_of_getElem? (i := 9) rfl)) (mem_c (inL_11 (List.mem_of_getElem? (i := 22) rfl)) (mem_c (inL_11 (List.mem_of_getElem? (i := 23) rfl)) (mem_c (inL_12 (List.mem_of_getElem? (i := 0) rfl)) (mem_c (inL_12 (List.mem_of_getElem? (i := 1) rfl)) (mem_c (inL_12 (List.mem_of_getElem? (i := 2) rfl)) (mem_c (inL_12 (List.mem_of_getElem? (i := 3) rfl)) (mem_c (inL_12 (List.mem_of_getElem? (i := 4) rfl)) (mem_c (inL_12 (List.mem_of_getElem? (i := 5) rfl)) (mem_c (inL_12 (List.mem_of_getElem? (i := 6) rfl)) (mem_c (inL_10 (List.mem_of_getElem? (i := 19) rfl)) (mem_c (inL_10 (List.mem_of_getElem? (i := 20) rfl)) (mem_c (inL_10 (List.mem_of_getElem? (i := 21) rfl)) (mem_c (inL_24 (List.mem_of_getElem? (i := 10) rfl)) (mem_c (inL_24 (List.mem_of_getElem? (i := 11) rfl)) (mem_c (inL_24 (List.mem_of_getElem? (i := 12) rfl)) (mem_c (inL_2 (List.mem_of_getElem? (i := 18) rfl)) (mem_c (inL_24 (List.mem_of_getElem? (i := 13) rfl)) (mem_c (inL_5 (List.mem_of_getElem? (i := 7) rfl)) (fun w h => absurd h List.not_mem_nil))))))))))))))))))))))))) (mem_c (inL_5 (List.mem_of_getElem? (i := 8) rfl)) (mem_c (inL_5 (List.mem_of_getElem? (i := 6) rfl)) (mem_c (inL_24 (List.mem_of_getElem? (i := 14) rfl)) (mem_c (inL_24 (List.mem_of_getElem? (i := 15) rfl)) (mem_c (inL_24 (List.mem_of_getElem? (i := 16) rfl)) (mem_c (inL_24 (List.mem_of_getElem? (i := 17) rfl)) (mem_c (inL_5 (List.mem_of_getElem? (i := 5) rfl)) (mem_c (inL_24 (List.mem_of_getElem? (i := 18) rfl)) (mem_c (inL_24 (List.mem_of_getElem? (i := 19) rfl)) (mem_c (inL_24 (List.mem_of_getElem? (i := 20) rfl)) (mem_c (inL_24 (List.mem_of_getElem? (i := 21) rfl)) (mem_c (inL_24 (List.mem_of_getElem? (i := 22) rfl)) (mem_c (inL_13 (List.mem_of_getElem? (i := 21) rfl)) (mem_c (inL_24 (List.mem_of_getElem? (i := 23) rfl)) (mem_c (inL_25 (List.mem_of_getElem? (i := 0) rfl)) (mem_c (inL_13 (List.mem_of_getElem? (i := 20) rfl)) (mem_c (inL_13 (List.mem_of_getElem? (i := 22) rfl)) (mem_c (inL_25 (List.mem_of_getElem? (i := 1) rfl)) (mem_c (inL_25 (List.mem_of_getElem? (i := 2) rfl)) (mem_c (inL_25 (List.mem_of_getElem? (i := 3) rfl)) (fun w h => absurd h List.not_mem_nil)))))))))))))))))))))) inlX11) inlX0) inlX1)) (by decide +kernel)
set_option maxRecDepth 20000 in
theorem gL_law_X11_covers : GoodIn wsL_law (wsV RL 58 RX11 yX11_covers wsX11_covers) := goodIn_app (goodIn_sub (mem_c (inL_24 (List.mem_of_getElem? (i := 6) rfl)) (mem_c (inL_24 (List.mem_of_getElem? (i := 7) rfl)) (mem_c (inL_24 (List.mem_of_getElem? (i := 8) rfl)) (mem_c (inL_1 (List.mem_of_getElem? (i := 2) rfl)) (fun w h => absurd h List.not_mem_nil))))) (by decide +kernel)) ggL_law_X11_covers
set_option maxRecDepth 20000 in
theorem ggL_law_X12_covers : GoodIn wsL_law wsX12_covers := goodIn_sub (mem_c (inL_25 (List.mem_of_getElem? (i := 7) rfl)) (mem_app (mem_c (inL_13 (List.mem_of_getElem? (i := 2) rfl)) (mem_c (inL_13 (List.mem_of_getElem? (i := 3) rfl)) (mem_c (inL_1 (List.mem_of_getElem? (i := 5) rfl)) (mem_c (inL_13 (List.mem_of_getElem? (i := 4) rfl)) (mem_c (inL_11 (List.mem_of_getElem? (i := 14) rfl)) (mem_c (inL_11 (List.mem_of_getElem? (i := 15) rfl)) (mem_c (inL_11 (List.mem_of_getElem? (i := 16) rfl)) (mem_c (inL_12 (List.mem_of_getElem? (i := 14) rfl)) (mem_c (inL_12 (List.mem_of_getElem? (i := 15) rfl)) (mem_c (inL_12 (List.mem_of_getElem? (i := 16) rfl)) (mem_c (inL_25 (List.mem_of_getElem? (i := 8) rfl)) (mem_c (inL_25 (List.mem_of_getElem? (i := 9) rfl)) (mem_c (inL_25 (List.mem_of_getElem? (i := 10) rfl)) (mem_c (inL_25 (List.mem_of_getElem? (i := 11) rfl)) (mem_c (inL_8 (List.mem_of_getElem? (i := 10) rfl)) (mem_c (inL_8 (List.mem_of_getElem? (i := 11) rfl)) (mem_c (inL_8 (List.mem_of_getElem? (i := 9) rfl)) (mem_c (inL_8 (List.mem_of_getElem? (i := 8) rfl)) (mem_c (inL_25 (List.mem_of_getElem? (i := 12) rfl)) (mem_c (inL_25 (List.mem_of_getElem? (i := 13) rfl)) (mem_c (inL_25 (List.mem_of_getElem? (i := 14) rfl)) (fun w h => absurd h List.not_mem_nil)))))))))))))))))))))) inlX12)) (by decide +kernel)
set_option maxRecDepth 20000 in
theorem gL_law_X12_covers : GoodIn wsL_law (wsV RL 61 RX12 yX12_covers wsX12_covers) := goodIn_app (goodIn_sub (mem_c (inL_25 (List.mem_of_getElem? (i := 4) rfl)) (mem_c (inL_25 (List.mem_of_getElem? (i := 5) rfl)) (mem_c (inL_25 (List.mem_of_getElem? (i := 6) rfl)) (mem_c (inL_1 (List.mem_of_getElem? (i := 5) rfl)) (fun w h => absurd h List.not_mem_nil))))) (by decide +kernel)) ggL_law_X12_covers
set_option maxRecDepth 20000 in
theorem ggL_law_X11_begin : GoodIn wsL_law wsX11_begin := goodIn_sub (mem_c (inL_25 (List.mem_of_getElem? (i := 18) rfl)) (mem_app (mem_app (mem_app (mem_app (mem_app (mem_c (inL_2 (List.mem_of_getElem? (i := 1) rfl)) (mem_c (inL_25 (List.mem_of_getElem? (i := 19) rfl)) (mem_c (inL_25 (List.mem_of_getElem? (i := 20) rfl)) (mem_c (inL_1 (List.mem_of_getElem? (i := 23) rfl)) (mem_c (inL_11 (List.mem_of_getElem? (i := 21) rfl)) (mem_c (inL_11 (List.mem_of_getElem? (i := 7) rfl)) (mem_c (inL_11 (List.mem_of_getElem? (i := 8) rfl)) (mem_c (inL_1 (List.mem_of_getElem? (i := 2) rfl)) (mem_c (inL_11 (List.mem_of_getElem? (i := 9) rfl)) (mem_c (inL_10 (List.mem_of_getElem? (i := 19) rfl)) (mem_c (inL_10 (List.mem_of_getElem? (i := 20) rfl)) (mem_c (inL_10 (List.mem_of_getElem? (i := 21) rfl)) (mem_c (inL_25 (List.mem_of_getElem? (i := 21) rfl)) (mem_c (inL_25 (List.mem_of_getElem? (i := 22) rfl)) (mem_c (inL_25 (List.mem_of_getElem? (i := 23) rfl)) (mem_c (inL_4 (List.mem_of_getElem? (i := 15) rfl)) (mem_c (inL_26 (List.mem_of_getElem? (i := 0) rfl)) (mem_c (inL_5 (List.mem_of_getElem? (i := 14) rfl)) (mem_c (inL_5 (List.mem_of_getElem? (i := 15) rfl)) (mem_c (inL_5 (List.mem_of_getElem? (i := 16) rfl)) (mem_c (inL_5 (List.mem_of_getElem? (i := 17) rfl)) (mem_c (inL_5 (List.mem_of_getElem? (i := 18) rfl)) (mem_c (inL_5 (List.mem_of_getElem? (i := 19) rfl)) (mem_c (inL_5 (List.mem_of_getElem? (i := 20) rfl)) (fun w h => absurd h List.not_mem_nil))))))))))))))))))))))))) (mem_c (inL_5 (List.mem_of_getElem? (i := 21) rfl)) (mem_c (inL_5 (List.mem_of_getElem? (i := 22) rfl)) (mem_c (inL_5 (List.mem_of_getElem? (i := 23) rfl)) (mem_c (inL_6 (List.mem_of_getElem? (i := 0) rfl)) (mem_c (inL_6 (List.mem_of_getElem? (i := 1) rfl)) (mem_c (inL_6 (List.mem_of_getElem? (i := 2) rfl)) (mem_c (inL_6 (List.mem_of_getElem? (i := 3) rfl)) (mem_c (inL_6 (List.mem_of_getElem? (i := 4) rfl)) (fun w h => absurd h List.not_mem_nil)))))))))) inlX11) inlX0) inlX4) inlX8)) (by decide +kernel)
set_option maxRecDepth 20000 in
theorem gL_law_X11_begin : GoodIn wsL_law (wsV RL 62 RX11 yX11_begin wsX11_begin) := goodIn_app (goodIn_sub (mem_c (inL_25 (List.mem_of_getElem? (i := 15) rfl)) (mem_c (inL_25 (List.mem_of_getElem? (i := 16) rfl)) (mem_c (inL_25 (List.mem_of_getElem? (i := 17) rfl)) (mem_c (inL_1 (List.mem_of_getElem? (i := 2) rfl)) (fun w h => absurd h List.not_mem_nil))))) (by decide +kernel)) ggL_law_X11_begin
set_option maxRecDepth 20000 in
theorem ggL_law_X12_begin : GoodIn wsL_law wsX12_begin := goodIn_sub (mem_c (inL_26 (List.mem_of_getElem? (i := 4) rfl)) (mem_app (mem_app (mem_c (inL_8 (List.mem_of_getElem? (i := 18) rfl)) (mem_c (inL_8 (List.mem_of_getElem? (i := 19) rfl)) (mem_c (inL_8 (List.mem_of_getElem? (i := 20) rfl)) (mem_c (inL_8 (List.mem_of_getElem? (i := 14) rfl)) (mem_c (inL_9 (List.mem_of_getElem? (i := 3) rfl)) (mem_c (inL_8 (List.mem_of_getElem? (i := 21) rfl)) (mem_c (inL_8 (List.mem_of_getElem? (i := 22) rfl)) (mem_c (inL_9 (List.mem_of_getElem? (i := 0) rfl)) (mem_c (inL_9 (List.mem_of_getElem? (i := 1) rfl)) (mem_c (inL_9 (List.mem_of_getElem? (i := 2) rfl)) (mem_c (inL_9 (List.mem_of_getElem? (i := 4) rfl)) (mem_c (inL_9 (List.mem_of_getElem? (i := 5) rfl)) (mem_c (inL_9 (List.mem_of_getElem? (i := 6) rfl)) (mem_c (inL_9 (List.mem_of_getElem? (i := 7) rfl)) (mem_c (inL_9 (List.mem_of_getElem? (i := 8) rfl)) (mem_c (inL_9 (List.mem_of_getElem? (i := 9) rfl)) (mem_c (inL_9 (List.mem_of_getElem? (i := 10) rfl)) (mem_c (inL_13 (List.mem_of_getElem? (i := 2) rfl)) (mem_c (inL_13 (List.mem_of_getElem? (i := 3) rfl)) (mem_c (inL_1 (List.mem_of_getElem? (i := 5) rfl)) (mem_c (inL_13 (List.mem_of_getElem? (i := 4) rfl)) (mem_c (inL_11 (List.mem_of_getElem? (i := 14) rfl)) (mem_c (inL_11 (List.mem_of_getElem? (i := 15) rfl)) (mem_c (inL_11 (List.mem_of_getElem? (i := 16) rfl)) (fun w h => absurd h List.not_mem_nil))))))))))))))))))))))))) (mem_c (inL_12 (List.mem_of_getElem? (i := 11) rfl)) (mem_c (inL_12 (List.mem_of_getElem? (i := 12) rfl)) (mem_c (inL_12 (List.mem_of_getElem? (i := 13) rfl)) (fun w h => absurd h List.not_mem_nil))))) inlX12)) (by decide +kernel)
set_option maxRecDepth 20000 in
theorem gL_law_X12_begin : GoodIn wsL_law (wsV RL 65 RX12 yX12_begin wsX12_begin) := goodIn_app (goodIn_sub (mem_c (inL_26 (List.mem_of_getElem? (i := 1) rfl)) (mem_c (inL_26 (List.mem_of_getElem? (i := 2) rfl)) (mem_c (inL_26 (List.mem_of_getElem? (i := 3) rfl)) (mem_c (inL_1 (List.mem_of_getElem? (i := 5) rfl)) (fun w h => absurd h List.not_mem_nil))))) (by decide +kernel)) ggL_law_X12_begin
set_option maxRecDepth 20000 in
theorem ggL_law_X11_place : GoodIn wsL_law wsX11_place := goodIn_sub (mem_c (inL_26 (List.mem_of_getElem? (i := 8) rfl)) (mem_app (mem_app (mem_app (mem_app (mem_c (inL_2 (List.mem_of_getElem? (i := 1) rfl)) (mem_c (inL_25 (List.mem_of_getElem? (i := 19) rfl)) (mem_c (inL_25 (List.mem_of_getElem? (i := 20) rfl)) (mem_c (inL_26 (List.mem_of_getElem? (i := 9) rfl)) (mem_c (inL_11 (List.mem_of_getElem? (i := 7) rfl)) (mem_c (inL_11 (List.mem_of_getElem? (i := 8) rfl)) (mem_c (inL_1 (List.mem_of_getElem? (i := 2) rfl)) (mem_c (inL_11 (List.mem_of_getElem? (i := 9) rfl)) (mem_c (inL_11 (List.mem_of_getElem? (i := 22) rfl)) (mem_c (inL_11 (List.mem_of_getElem? (i := 23) rfl)) (mem_c (inL_12 (List.mem_of_getElem? (i := 0) rfl)) (mem_c (inL_12 (List.mem_of_getElem? (i := 1) rfl)) (mem_c (inL_12 (List.mem_of_getElem? (i := 2) rfl)) (mem_c (inL_12 (List.mem_of_getElem? (i := 3) rfl)) (mem_c (inL_12 (List.mem_of_getElem? (i := 4) rfl)) (mem_c (inL_12 (List.mem_of_getElem? (i := 5) rfl)) (mem_c (inL_12 (List.mem_of_getElem? (i := 6) rfl)) (mem_c (inL_26 (List.mem_of_getElem? (i := 10) rfl)) (mem_c (inL_26 (List.mem_of_getElem? (i := 11) rfl)) (mem_c (inL_26 (List.mem_of_getElem? (i := 12) rfl)) (mem_c (inL_4 (List.mem_of_getElem? (i := 15) rfl)) (mem_c (inL_26 (List.mem_of_getElem? (i := 13) rfl)) (mem_c (inL_5 (List.mem_of_getElem? (i := 14) rfl)) (mem_c (inL_5 (List.mem_of_getElem? (i := 13) rfl)) (fun w h => absurd h List.not_mem_nil))))))))))))))))))))))))) (mem_c (inL_26 (List.mem_of_getElem? (i := 14) rfl)) (mem_c (inL_26 (List.mem_of_getElem? (i := 15) rfl)) (mem_c (inL_26 (List.mem_of_getElem? (i := 16) rfl)) (mem_c (inL_26 (List.mem_of_getElem? (i := 17) rfl)) (mem_c (inL_5 (List.mem_of_getElem? (i := 15) rfl)) (fun w h => absurd h List.not_mem_nil))))))) inlX11) inlX0) inlX4)) (by decide +kernel)
set_option maxRecDepth 20000 in
theorem gL_law_X11_place : GoodIn wsL_law (wsV RL 66 RX11 yX11_place wsX11_place) := goodIn_app (goodIn_sub (mem_c (inL_26 (List.mem_of_getElem? (i := 5) rfl)) (mem_c (inL_26 (List.mem_of_getElem? (i := 6) rfl)) (mem_c (inL_26 (List.mem_of_getElem? (i := 7) rfl)) (mem_c (inL_1 (List.mem_of_getElem? (i := 2) rfl)) (fun w h => absurd h List.not_mem_nil))))) (by decide +kernel)) ggL_law_X11_place
set_option maxRecDepth 20000 in
theorem ggL_law_X12_place : GoodIn wsL_law wsX12_place := goodIn_sub (mem_c (inL_26 (List.mem_of_getElem? (i := 21) rfl)) (mem_app (mem_c (inL_8 (List.mem_of_getElem? (i := 18) rfl)) (mem_c (inL_8 (List.mem_of_getElem? (i := 19) rfl)) (mem_c (inL_9 (List.mem_of_getElem? (i := 2) rfl)) (mem_c (inL_9 (List.mem_of_getElem? (i := 1) rfl)) (mem_c (inL_8 (List.mem_of_getElem? (i := 23) rfl)) (mem_c (inL_13 (List.mem_of_getElem? (i := 2) rfl)) (mem_c (inL_13 (List.mem_of_getElem? (i := 3) rfl)) (mem_c (inL_1 (List.mem_of_getElem? (i := 5) rfl)) (mem_c (inL_13 (List.mem_of_getElem? (i := 4) rfl)) (mem_c (inL_11 (List.mem_of_getElem? (i := 14) rfl)) (mem_c (inL_11 (List.mem_of_getElem? (i := 15) rfl)) (mem_c (inL_11 (List.mem_of_getElem? (i := 16) rfl)) (mem_c (inL_12 (List.mem_of_getElem? (i := 14) rfl)) (mem_c (inL_12 (List.mem_of_getElem? (i := 15) rfl)) (mem_c (inL_12 (List.mem_of_getElem? (i := 16) rfl)) (fun w h => absurd h List.not_mem_nil)))))))))))))))) inlX12)) (by decide +kernel)
set_option maxRecDepth 20000 in
theorem gL_law_X12_place : GoodIn wsL_law (wsV RL 69 RX12 yX12_place wsX12_place) := goodIn_app (goodIn_sub (mem_c (inL_26 (List.mem_of_getElem? (i := 18) rfl)) (mem_c (inL_26 (List.mem_of_getElem? (i := 19) rfl)) (mem_c (inL_26 (List.mem_of_getElem? (i := 20) rfl)) (mem_c (inL_1 (List.mem_of_getElem? (i := 5) rfl)) (fun w h => absurd h List.not_mem_nil))))) (by decide +kernel)) ggL_law_X12_place
set_option maxRecDepth 20000 in
theorem ggL_law_X11_sail : GoodIn wsL_law wsX11_sail := goodIn_sub (mem_c (inL_27 (List.mem_of_getElem? (i := 1) rfl)) (mem_app (mem_app (mem_app (mem_app (mem_app (mem_app (mem_app (mem_c (inL_2 (List.mem_of_getElem? (i := 1) rfl)) (mem_c (inL_25 (List.mem_of_getElem? (i := 19) rfl)) (mem_c (inL_25 (List.mem_of_getElem? (i := 20) rfl)) (mem_c (inL_27 (List.mem_of_getElem? (i := 2) rfl)) (mem_c (inL_2 (List.mem_of_getElem? (i := 20) rfl)) (mem_c (inL_1 (List.mem_of_getElem? (i := 23) rfl)) (mem_c (inL_11 (List.mem_of_getElem? (i := 7) rfl)) (mem_c (inL_11 (List.mem_of_getElem? (i := 8) rfl)) (mem_c (inL_1 (List.mem_of_getElem? (i := 2) rfl)) (mem_c (inL_11 (List.mem_of_getElem? (i := 9) rfl)) (mem_c (inL_10 (List.mem_of_getElem? (i := 19) rfl)) (mem_c (inL_10 (List.mem_of_getElem? (i := 20) rfl)) (mem_c (inL_10 (List.mem_of_getElem? (i := 21) rfl)) (mem_c (inL_27 (List.mem_of_getElem? (i := 3) rfl)) (mem_c (inL_27 (List.mem_of_getElem? (i := 4) rfl)) (mem_c (inL_27 (List.mem_of_getElem? (i := 5) rfl)) (mem_c (inL_4 (List.mem_of_getElem? (i := 15) rfl)) (mem_c (inL_27 (List.mem_of_getElem? (i := 6) rfl)) (mem_c (inL_5 (List.mem_of_getElem? (i := 23) rfl)) (mem_c (inL_5 (List.mem_of_getElem? (i := 20) rfl)) (mem_c (inL_5 (List.mem_of_getElem? (i := 18) rfl)) (mem_c (inL_27 (List.mem_of_getElem? (i := 7) rfl)) (mem_c (inL_27 (List.mem_of_getElem? (i := 8) rfl)) (mem_c (inL_5 (List.mem_of_getElem? (i := 16) rfl)) (fun w h => absurd h List.not_mem_nil))))))))))))))))))))))))) (mem_app (mem_c (inL_27 (List.mem_of_getElem? (i := 9) rfl)) (mem_c (inL_5 (List.mem_of_getElem? (i := 19) rfl)) (mem_c (inL_5 (List.mem_of_getElem? (i := 22) rfl)) (mem_c (inL_6 (List.mem_of_getElem? (i := 1) rfl)) (mem_c (inL_6 (List.mem_of_getElem? (i := 4) rfl)) (mem_c (inL_27 (List.mem_of_getElem? (i := 10) rfl)) (mem_c (inL_27 (List.mem_of_getElem? (i := 11) rfl)) (mem_c (inL_27 (List.mem_of_getElem? (i := 12) rfl)) (mem_c (inL_1 (List.mem_of_getElem? (i := 22) rfl)) (mem_c (inL_27 (List.mem_of_getElem? (i := 13) rfl)) (mem_c (inL_4 (List.mem_of_getElem? (i := 1) rfl)) (mem_c (inL_12 (List.mem_of_getElem? (i := 5) rfl)) (mem_c (inL_12 (List.mem_of_getElem? (i := 6) rfl)) (mem_c (inL_12 (List.mem_of_getElem? (i := 2) rfl)) (mem_c (inL_12 (List.mem_of_getElem? (i := 3) rfl)) (mem_c (inL_27 (List.mem_of_getElem? (i := 14) rfl)) (mem_c (inL_27 (List.mem_of_getElem? (i := 15) rfl)) (mem_c (inL_27 (List.mem_of_getElem? (i := 16) rfl)) (mem_c (inL_2 (List.mem_of_getElem? (i := 3) rfl)) (mem_c (inL_27 (List.mem_of_getElem? (i := 17) rfl)) (mem_c (inL_4 (List.mem_of_getElem? (i := 7) rfl)) (mem_c (inL_27 (List.mem_of_getElem? (i := 18) rfl)) (mem_c (inL_27 (List.mem_of_getElem? (i := 19) rfl)) (mem_c (inL_27 (List.mem_of_getElem? (i := 20) rfl)) (fun w h => absurd h List.not_mem_nil))))))))))))))))))))))))) (mem_app (mem_c (inL_2 (List.mem_of_getElem? (i := 14) rfl)) (mem_c (inL_27 (List.mem_of_getElem? (i := 21) rfl)) (mem_c (inL_5 (List.mem_of_getElem? (i := 1) rfl)) (mem_c (inL_4 (List.mem_of_getElem? (i := 20) rfl)) (mem_c (inL_4 (List.mem_of_getElem? (i := 22) rfl)) (mem_c (inL_4 (List.mem_of_getElem? (i := 23) rfl)) (mem_c (inL_5 (List.mem_of_getElem? (i := 0) rfl)) (mem_c (inL_27 (List.mem_of_getElem? (i := 22) rfl)) (mem_c (inL_27 (List.mem_of_getElem? (i := 23) rfl)) (mem_c (inL_28 (List.mem_of_getElem? (i := 0) rfl)) (mem_c (inL_28 (List.mem_of_getElem? (i := 1) rfl)) (mem_c (inL_24 (List.mem_of_getElem? (i := 11) rfl)) (mem_c (inL_24 (List.mem_of_getElem? (i := 12) rfl)) (mem_c (inL_2 (List.mem_of_getElem? (i := 18) rfl)) (mem_c (inL_24 (List.mem_of_getElem? (i := 13) rfl)) (mem_c (inL_5 (List.mem_of_getElem? (i := 7) rfl)) (mem_c (inL_5 (List.mem_of_getElem? (i := 8) rfl)) (mem_c (inL_5 (List.mem_of_getElem? (i := 6) rfl)) (mem_c (inL_24 (List.mem_of_getElem? (i := 14) rfl)) (mem_c (inL_24 (List.mem_of_getElem? (i := 15) rfl)) (mem_c (inL_24 (List.mem_of_getElem? (i := 16) rfl)) (mem_c (inL_24 (List.mem_of_getElem? (i := 17) rfl)) (mem_c (inL_5 (List.mem_of_getElem? (i := 5) rfl)) (mem_c (inL_24 (List.mem_of_getElem? (i := 18) rfl)) (fun w h => absurd h List.not_mem_nil))))))))))))))))))))))))) (mem_app (mem_c (inL_24 (List.mem_of_getElem? (i := 19) rfl)) (mem_c (inL_24 (List.mem_of_getElem? (i := 20) rfl)) (mem_c (inL_24 (List.mem_of_getElem? (i := 21) rfl)) (mem_c (inL_24 (List.mem_of_getElem? (i := 22) rfl)) (mem_c (inL_13 (List.mem_of_getElem? (i := 21) rfl)) (mem_c (inL_24 (List.mem_of_getElem? (i := 23) rfl)) (mem_c (inL_25 (List.mem_of_getElem? (i := 0) rfl)) (mem_c (inL_13 (List.mem_of_getElem? (i := 20) rfl)) (mem_c (inL_13 (List.mem_of_getElem? (i := 22) rfl)) (mem_c (inL_25 (List.mem_of_getElem? (i := 1) rfl)) (mem_c (inL_25 (List.mem_of_getElem? (i := 2) rfl)) (mem_c (inL_25 (List.mem_of_getElem? (i := 3) rfl)) (mem_c (inL_28 (List.mem_of_getElem? (i := 2) rfl)) (mem_c (inL_28 (List.mem_of_getElem? (i := 3) rfl)) (mem_c (inL_28 (List.mem_of_getElem? (i := 4) rfl)) (mem_c (inL_28 (List.mem_of_getElem? (i := 5) rfl)) (mem_c (inL_6 (List.mem_of_getElem? (i := 2) rfl)) (mem_c (inL_6 (List.mem_of_getElem? (i := 3) rfl)) (mem_c (inL_28 (List.mem_of_getElem? (i := 6) rfl)) (mem_c (inL_28 (List.mem_of_getElem? (i := 7) rfl)) (mem_c (inL_28 (List.mem_of_getElem? (i := 8) rfl)) (mem_c (inL_28 (List.mem_of_getElem? (i := 9) rfl)) (mem_c (inL_5 (List.mem_of_getElem? (i := 13) rfl)) (mem_c (inL_5 (List.mem_of_getElem? (i := 17) rfl)) (fun w h => absurd h List.not_mem_nil))))))))))))))))))))))))) (mem_app (mem_c (inL_28 (List.mem_of_getElem? (i := 10) rfl)) (mem_c (inL_5 (List.mem_of_getElem? (i := 14) rfl)) (mem_c (inL_5 (List.mem_of_getElem? (i := 15) rfl)) (mem_c (inL_28 (List.mem_of_getElem? (i := 11) rfl)) (mem_c (inL_28 (List.mem_of_getElem? (i := 12) rfl)) (mem_c (inL_28 (List.mem_of_getElem? (i := 13) rfl)) (mem_c (inL_28 (List.mem_of_getElem? (i := 14) rfl)) (mem_c (inL_28 (List.mem_of_getElem? (i := 15) rfl)) (mem_c (inL_28 (List.mem_of_getElem? (i := 16) rfl)) (mem_c (inL_28 (List.mem_of_getElem? (i := 17) rfl)) (mem_c (inL_5 (List.mem_of_getElem? (i := 21) rfl)) (mem_c (inL_28 (List.mem_of_getElem? (i := 18) rfl)) (mem_c (inL_28 (List.mem_of_getElem? (i := 19) rfl)) (mem_c (inL_28 (List.mem_of_getElem? (i := 20) rfl)) (mem_c (inL_28 (List.mem_of_getElem? (i := 21) rfl)) (mem_c (inL_28 (List.mem_of_getElem? (i := 22) rfl)) (mem_c (inL_28 (List.mem_of_getElem? (i := 23) rfl)) (mem_c (inL_29 (List.mem_of_getElem? (i := 0) rfl)) (mem_c (inL_29 (List.mem_of_getElem? (i := 1) rfl)) (mem_c (inL_29 (List.mem_of_getElem? (i := 2) rfl)) (mem_c (inL_29 (List.mem_of_getElem? (i := 3) rfl)) (mem_c (inL_29 (List.mem_of_getElem? (i := 4) rfl)) (mem_c (inL_29 (List.mem_of_getElem? (i := 5) rfl)) (mem_c (inL_29 (List.mem_of_getElem? (i := 6) rfl)) (fun w h => absurd h List.not_mem_nil))))))))))))))))))))))))) (mem_app (mem_c (inL_29 (List.mem_of_getElem? (i := 7) rfl)) (mem_c (inL_29 (List.mem_of_getElem? (i := 8) rfl)) (mem_c (inL_29 (List.mem_of_getElem? (i := 9) rfl)) (mem_c (inL_29 (List.mem_of_getElem? (i := 10) rfl)) (mem_c (inL_29 (List.mem_of_getElem? (i := 11) rfl)) (mem_c (inL_29 (List.mem_of_getElem? (i := 12) rfl)) (mem_c (inL_29 (List.mem_of_getElem? (i := 13) rfl)) (mem_c (inL_29 (List.mem_of_getElem? (i := 14) rfl)) (mem_c (inL_29 (List.mem_of_getElem? (i := 15) rfl)) (mem_c (inL_29 (List.mem_of_getElem? (i := 16) rfl)) (mem_c (inL_29 (List.mem_of_getElem? (i := 17) rfl)) (mem_c (inL_29 (List.mem_of_getElem? (i := 18) rfl)) (mem_c (inL_29 (List.mem_of_getElem? (i := 19) rfl)) (mem_c (inL_29 (List.mem_of_getElem? (i := 20) rfl)) (mem_c (inL_29 (List.mem_of_getElem? (i := 21) rfl)) (mem_c (inL_29 (List.mem_of_getElem? (i := 22) rfl)) (mem_c (inL_4 (List.mem_of_getElem? (i := 6) rfl)) (mem_c (inL_29 (List.mem_of_getElem? (i := 23) rfl)) (mem_c (inL_30 (List.mem_of_getElem? (i := 0) rfl)) (mem_c (inL_30 (List.mem_of_getElem? (i := 1) rfl)) (mem_c (inL_30 (List.mem_of_getElem? (i := 2) rfl)) (mem_c (inL_6 (List.mem_of_getElem? (i := 0) rfl)) (mem_c (inL_30 (List.mem_of_getElem? (i := 3) rfl)) (mem_c (inL_30 (List.mem_of_getElem? (i := 4) rfl)) (fun w h => absurd h List.not_mem_nil))))))))))))))))))))))))) (mem_c (inL_30 (List.mem_of_getElem? (i := 5) rfl)) (mem_c (inL_30 (List.mem_of_getElem? (i := 6) rfl)) (mem_c (inL_4 (List.mem_of_getElem? (i := 8) rfl)) (mem_c (inL_30 (List.mem_of_getElem? (i := 7) rfl)) (mem_c (inL_30 (List.mem_of_getElem? (i := 8) rfl)) (mem_c (inL_30 (List.mem_of_getElem? (i := 9) rfl)) (mem_c (inL_30 (List.mem_of_getElem? (i := 10) rfl)) (mem_c (inL_30 (List.mem_of_getElem? (i := 11) rfl)) (fun w h => absurd h List.not_mem_nil))))))))))))))) inlX11) inlX0) inlX4) inlX8) inlX7) inlX1)) (by decide +kernel)
set_option maxRecDepth 20000 in
theorem gL_law_X11_sail : GoodIn wsL_law (wsV RL 70 RX11 yX11_sail wsX11_sail) := goodIn_app (goodIn_sub (mem_c (inL_26 (List.mem_of_getElem? (i := 22) rfl)) (mem_c (inL_26 (List.mem_of_getElem? (i := 23) rfl)) (mem_c (inL_27 (List.mem_of_getElem? (i := 0) rfl)) (mem_c (inL_1 (List.mem_of_getElem? (i := 2) rfl)) (fun w h => absurd h List.not_mem_nil))))) (by decide +kernel)) ggL_law_X11_sail
set_option maxRecDepth 20000 in
theorem ggL_law_X12_sail : GoodIn wsL_law wsX12_sail := goodIn_sub (mem_c (inL_30 (List.mem_of_getElem? (i := 15) rfl)) (mem_app (mem_app (mem_c (inL_8 (List.mem_of_getElem? (i := 18) rfl)) (mem_c (inL_8 (List.mem_of_getElem? (i := 19) rfl)) (mem_c (inL_9 (List.mem_of_getElem? (i := 1) rfl)) (mem_c (inL_30 (List.mem_of_getElem? (i := 16) rfl)) (mem_c (inL_13 (List.mem_of_getElem? (i := 2) rfl)) (mem_c (inL_13 (List.mem_of_getElem? (i := 3) rfl)) (mem_c (inL_1 (List.mem_of_getElem? (i := 5) rfl)) (mem_c (inL_13 (List.mem_of_getElem? (i := 4) rfl)) (mem_c (inL_11 (List.mem_of_getElem? (i := 14) rfl)) (mem_c (inL_11 (List.mem_of_getElem? (i := 15) rfl)) (mem_c (inL_11 (List.mem_of_getElem? (i := 16) rfl)) (mem_c (inL_30 (List.mem_of_getElem? (i := 17) rfl)) (mem_c (inL_30 (List.mem_of_getElem? (i := 18) rfl)) (mem_c (inL_30 (List.mem_of_getElem? (i := 19) rfl)) (mem_c (inL_30 (List.mem_of_getElem? (i := 20) rfl)) (mem_c (inL_8 (List.mem_of_getElem? (i := 21) rfl)) (mem_c (inL_9 (List.mem_of_getElem? (i := 2) rfl)) (mem_c (inL_9 (List.mem_of_getElem? (i := 3) rfl)) (mem_c (inL_8 (List.mem_of_getElem? (i := 13) rfl)) (mem_c (inL_8 (List.mem_of_getElem? (i := 22) rfl)) (mem_c (inL_9 (List.mem_of_getElem? (i := 10) rfl)) (mem_c (inL_9 (List.mem_of_getElem? (i := 8) rfl)) (mem_c (inL_9 (List.mem_of_getElem? (i := 5) rfl)) (mem_c (inL_8 (List.mem_of_getElem? (i := 23) rfl)) (fun w h => absurd h List.not_mem_nil))))))))))))))))))))))))) (mem_app (mem_c (inL_8 (List.mem_of_getElem? (i := 20) rfl)) (mem_c (inL_9 (List.mem_of_getElem? (i := 0) rfl)) (mem_c (inL_9 (List.mem_of_getElem? (i := 7) rfl)) (mem_c (inL_8 (List.mem_of_getElem? (i := 16) rfl)) (mem_c (inL_9 (List.mem_of_getElem? (i := 9) rfl)) (mem_c (inL_8 (List.mem_of_getElem? (i := 17) rfl)) (mem_c (inL_30 (List.mem_of_getElem? (i := 21) rfl)) (mem_c (inL_30 (List.mem_of_getElem? (i := 22) rfl)) (mem_c (inL_30 (List.mem_of_getElem? (i := 23) rfl)) (mem_c (inL_31 (List.mem_of_getElem? (i := 0) rfl)) (mem_c (inL_31 (List.mem_of_getElem? (i := 1) rfl)) (mem_c (inL_31 (List.mem_of_getElem? (i := 2) rfl)) (mem_c (inL_31 (List.mem_of_getElem? (i := 3) rfl)) (mem_c (inL_31 (List.mem_of_getElem? (i := 4) rfl)) (mem_c (inL_31 (List.mem_of_getElem? (i := 5) rfl)) (mem_c (inL_31 (List.mem_of_getElem? (i := 6) rfl)) (mem_c (inL_31 (List.mem_of_getElem? (i := 7) rfl)) (mem_c (inL_31 (List.mem_of_getElem? (i := 8) rfl)) (mem_c (inL_31 (List.mem_of_getElem? (i := 9) rfl)) (mem_c (inL_31 (List.mem_of_getElem? (i := 10) rfl)) (mem_c (inL_8 (List.mem_of_getElem? (i := 7) rfl)) (mem_c (inL_8 (List.mem_of_getElem? (i := 6) rfl)) (mem_c (inL_31 (List.mem_of_getElem? (i := 11) rfl)) (mem_c (inL_31 (List.mem_of_getElem? (i := 12) rfl)) (fun w h => absurd h List.not_mem_nil))))))))))))))))))))))))) (mem_app (mem_c (inL_31 (List.mem_of_getElem? (i := 13) rfl)) (mem_c (inL_31 (List.mem_of_getElem? (i := 14) rfl)) (mem_c (inL_25 (List.mem_of_getElem? (i := 8) rfl)) (mem_c (inL_25 (List.mem_of_getElem? (i := 9) rfl)) (mem_c (inL_25 (List.mem_of_getElem? (i := 10) rfl)) (mem_c (inL_25 (List.mem_of_getElem? (i := 11) rfl)) (mem_c (inL_8 (List.mem_of_getElem? (i := 10) rfl)) (mem_c (inL_8 (List.mem_of_getElem? (i := 11) rfl)) (mem_c (inL_8 (List.mem_of_getElem? (i := 9) rfl)) (mem_c (inL_8 (List.mem_of_getElem? (i := 8) rfl)) (mem_c (inL_25 (List.mem_of_getElem? (i := 12) rfl)) (mem_c (inL_25 (List.mem_of_getElem? (i := 13) rfl)) (mem_c (inL_25 (List.mem_of_getElem? (i := 14) rfl)) (mem_c (inL_31 (List.mem_of_getElem? (i := 15) rfl)) (mem_c (inL_31 (List.mem_of_getElem? (i := 16) rfl)) (mem_c (inL_31 (List.mem_of_getElem? (i := 17) rfl)) (mem_c (inL_31 (List.mem_of_getElem? (i := 18) rfl)) (mem_c (inL_8 (List.mem_of_getElem? (i := 12) rfl)) (mem_c (inL_9 (List.mem_of_getElem? (i := 4) rfl)) (mem_c (inL_8 (List.mem_of_getElem? (i := 15) rfl)) (mem_c (inL_9 (List.mem_of_getElem? (i := 6) rfl)) (mem_c (inL_31 (List.mem_of_getElem? (i := 19) rfl)) (mem_c (inL_31 (List.mem_of_getElem? (i := 20) rfl)) (mem_c (inL_31 (List.mem_of_getElem? (i := 21) rfl)) (fun w h => absurd h List.not_mem_nil))))))))))))))))))))))))) (mem_c (inL_31 (List.mem_of_getElem? (i := 22) rfl)) (mem_c (inL_31 (List.mem_of_getElem? (i := 23) rfl)) (mem_c (inL_32 (List.mem_of_getElem? (i := 0) rfl)) (mem_c (inL_32 (List.mem_of_getElem? (i := 1) rfl)) (mem_c (inL_32 (List.mem_of_getElem? (i := 2) rfl)) (mem_c (inL_32 (List.mem_of_getElem? (i := 3) rfl)) (mem_c (inL_32 (List.mem_of_getElem? (i := 4) rfl)) (mem_c (inL_32 (List.mem_of_getElem? (i := 5) rfl)) (mem_c (inL_32 (List.mem_of_getElem? (i := 6) rfl)) (mem_c (inL_32 (List.mem_of_getElem? (i := 7) rfl)) (mem_c (inL_32 (List.mem_of_getElem? (i := 8) rfl)) (mem_c (inL_32 (List.mem_of_getElem? (i := 9) rfl)) (mem_c (inL_32 (List.mem_of_getElem? (i := 10) rfl)) (mem_c (inL_32 (List.mem_of_getElem? (i := 11) rfl)) (mem_c (inL_32 (List.mem_of_getElem? (i := 12) rfl)) (mem_c (inL_32 (List.mem_of_getElem? (i := 13) rfl)) (fun w h => absurd h List.not_mem_nil)))))))))))))))))))) inlX12)) (by decide +kernel)
set_option maxRecDepth 20000 in
theorem gL_law_X12_sail : GoodIn wsL_law (wsV RL 73 RX12 yX12_sail wsX12_sail) := goodIn_app (goodIn_sub (mem_c (inL_30 (List.mem_of_getElem? (i := 12) rfl)) (mem_c (inL_30 (List.mem_of_getElem? (i := 13) rfl)) (mem_c (inL_30 (List.mem_of_getElem? (i := 14) rfl)) (mem_c (inL_1 (List.mem_of_getElem? (i := 5) rfl)) (fun w h => absurd h List.not_mem_nil))))) (by decide +kernel)) ggL_law_X12_sail
set_option maxRecDepth 20000 in
theorem ggL_law_X11_passage : GoodIn wsL_law wsX11_passage := goodIn_sub (mem_c (inL_32 (List.mem_of_getElem? (i := 17) rfl)) (mem_app (mem_app (mem_app (mem_app (mem_c (inL_2 (List.mem_of_getElem? (i := 1) rfl)) (mem_c (inL_25 (List.mem_of_getElem? (i := 19) rfl)) (mem_c (inL_25 (List.mem_of_getElem? (i := 20) rfl)) (mem_c (inL_11 (List.mem_of_getElem? (i := 7) rfl)) (mem_c (inL_11 (List.mem_of_getElem? (i := 8) rfl)) (mem_c (inL_1 (List.mem_of_getElem? (i := 2) rfl)) (mem_c (inL_11 (List.mem_of_getElem? (i := 9) rfl)) (mem_c (inL_32 (List.mem_of_getElem? (i := 18) rfl)) (mem_c (inL_32 (List.mem_of_getElem? (i := 19) rfl)) (mem_c (inL_32 (List.mem_of_getElem? (i := 20) rfl)) (mem_c (inL_4 (List.mem_of_getElem? (i := 15) rfl)) (mem_c (inL_32 (List.mem_of_getElem? (i := 21) rfl)) (mem_c (inL_5 (List.mem_of_getElem? (i := 16) rfl)) (mem_c (inL_5 (List.mem_of_getElem? (i := 23) rfl)) (mem_c (inL_5 (List.mem_of_getElem? (i := 20) rfl)) (mem_c (inL_5 (List.mem_of_getElem? (i := 21) rfl)) (mem_c (inL_5 (List.mem_of_getElem? (i := 22) rfl)) (mem_c (inL_6 (List.mem_of_getElem? (i := 0) rfl)) (mem_c (inL_6 (List.mem_of_getElem? (i := 1) rfl)) (mem_c (inL_6 (List.mem_of_getElem? (i := 2) rfl)) (mem_c (inL_6 (List.mem_of_getElem? (i := 4) rfl)) (mem_c (inL_6 (List.mem_of_getElem? (i := 3) rfl)) (mem_c (inL_32 (List.mem_of_getElem? (i := 22) rfl)) (mem_c (inL_26 (List.mem_of_getElem? (i := 15) rfl)) (fun w h => absurd h List.not_mem_nil))))))))))))))))))))))))) (mem_c (inL_26 (List.mem_of_getElem? (i := 16) rfl)) (mem_c (inL_26 (List.mem_of_getElem? (i := 17) rfl)) (mem_c (inL_5 (List.mem_of_getElem? (i := 14) rfl)) (mem_c (inL_5 (List.mem_of_getElem? (i := 15) rfl)) (fun w h => absurd h List.not_mem_nil)))))) inlX11) inlX0) inlX4)) (by decide +kernel)
set_option maxRecDepth 20000 in
theorem gL_law_X11_passage : GoodIn wsL_law (wsV RL 74 RX11 yX11_passage wsX11_passage) := goodIn_app (goodIn_sub (mem_c (inL_32 (List.mem_of_getElem? (i := 14) rfl)) (mem_c (inL_32 (List.mem_of_getElem? (i := 15) rfl)) (mem_c (inL_32 (List.mem_of_getElem? (i := 16) rfl)) (mem_c (inL_1 (List.mem_of_getElem? (i := 2) rfl)) (fun w h => absurd h List.not_mem_nil))))) (by decide +kernel)) ggL_law_X11_passage
set_option maxRecDepth 20000 in
theorem ggL_law_X12_passage : GoodIn wsL_law wsX12_passage := goodIn_sub (mem_c (inL_33 (List.mem_of_getElem? (i := 2) rfl)) (mem_app (mem_c (inL_8 (List.mem_of_getElem? (i := 18) rfl)) (mem_c (inL_8 (List.mem_of_getElem? (i := 19) rfl)) (mem_c (inL_9 (List.mem_of_getElem? (i := 2) rfl)) (mem_c (inL_9 (List.mem_of_getElem? (i := 3) rfl)) (mem_c (inL_9 (List.mem_of_getElem? (i := 4) rfl)) (mem_c (inL_9 (List.mem_of_getElem? (i := 5) rfl)) (mem_c (inL_9 (List.mem_of_getElem? (i := 6) rfl)) (mem_c (inL_9 (List.mem_of_getElem? (i := 7) rfl)) (mem_c (inL_9 (List.mem_of_getElem? (i := 8) rfl)) (mem_c (inL_9 (List.mem_of_getElem? (i := 9) rfl)) (mem_c (inL_9 (List.mem_of_getElem? (i := 1) rfl)) (mem_c (inL_9 (List.mem_of_getElem? (i := 0) rfl)) (mem_c (inL_9 (List.mem_of_getElem? (i := 10) rfl)) (mem_c (inL_13 (List.mem_of_getElem? (i := 2) rfl)) (mem_c (inL_13 (List.mem_of_getElem? (i := 3) rfl)) (mem_c (inL_1 (List.mem_of_getElem? (i := 5) rfl)) (mem_c (inL_13 (List.mem_of_getElem? (i := 4) rfl)) (mem_c (inL_11 (List.mem_of_getElem? (i := 14) rfl)) (mem_c (inL_11 (List.mem_of_getElem? (i := 15) rfl)) (mem_c (inL_11 (List.mem_of_getElem? (i := 16) rfl)) (fun w h => absurd h List.not_mem_nil))))))))))))))))))))) inlX12)) (by decide +kernel)
set_option maxRecDepth 20000 in
theorem gL_law_X12_passage : GoodIn wsL_law (wsV RL 77 RX12 yX12_passage wsX12_passage) := goodIn_app (goodIn_sub (mem_c (inL_32 (List.mem_of_getElem? (i := 23) rfl)) (mem_c (inL_33 (List.mem_of_getElem? (i := 0) rfl)) (mem_c (inL_33 (List.mem_of_getElem? (i := 1) rfl)) (mem_c (inL_1 (List.mem_of_getElem? (i := 5) rfl)) (fun w h => absurd h List.not_mem_nil))))) (by decide +kernel)) ggL_law_X12_passage
set_option maxRecDepth 20000 in
theorem ggL_law_X11_boat : GoodIn wsL_law wsX11_boat := goodIn_sub (mem_c (inL_33 (List.mem_of_getElem? (i := 6) rfl)) (mem_app (mem_app (mem_c (inL_2 (List.mem_of_getElem? (i := 1) rfl)) (mem_c (inL_13 (List.mem_of_getElem? (i := 18) rfl)) (mem_c (inL_13 (List.mem_of_getElem? (i := 9) rfl)) (mem_c (inL_11 (List.mem_of_getElem? (i := 7) rfl)) (mem_c (inL_11 (List.mem_of_getElem? (i := 8) rfl)) (mem_c (inL_1 (List.mem_of_getElem? (i := 2) rfl)) (mem_c (inL_11 (List.mem_of_getElem? (i := 9) rfl)) (mem_c (inL_10 (List.mem_of_getElem? (i := 19) rfl)) (mem_c (inL_10 (List.mem_of_getElem? (i := 20) rfl)) (mem_c (inL_10 (List.mem_of_getElem? (i := 21) rfl)) (mem_c (inL_33 (List.mem_of_getElem? (i := 7) rfl)) (mem_c (inL_27 (List.mem_of_getElem? (i := 15) rfl)) (mem_c (inL_27 (List.mem_of_getElem? (i := 16) rfl)) (mem_c (inL_2 (List.mem_of_getElem? (i := 3) rfl)) (mem_c (inL_27 (List.mem_of_getElem? (i := 17) rfl)) (mem_c (inL_4 (List.mem_of_getElem? (i := 7) rfl)) (fun w h => absurd h List.not_mem_nil))))))))))))))))) inlX11) inlX0)) (by decide +kernel)
set_option maxRecDepth 20000 in
theorem gL_law_X11_boat : GoodIn wsL_law (wsV RL 78 RX11 yX11_boat wsX11_boat) := goodIn_app (goodIn_sub (mem_c (inL_33 (List.mem_of_getElem? (i := 3) rfl)) (mem_c (inL_33 (List.mem_of_getElem? (i := 4) rfl)) (mem_c (inL_33 (List.mem_of_getElem? (i := 5) rfl)) (mem_c (inL_1 (List.mem_of_getElem? (i := 2) rfl)) (fun w h => absurd h List.not_mem_nil))))) (by decide +kernel)) ggL_law_X11_boat
set_option maxRecDepth 20000 in
theorem ggL_law_X12_boat : GoodIn wsL_law wsX12_boat := goodIn_sub (mem_c (inL_33 (List.mem_of_getElem? (i := 11) rfl)) (mem_app (mem_c (inL_8 (List.mem_of_getElem? (i := 16) rfl)) (mem_c (inL_8 (List.mem_of_getElem? (i := 17) rfl)) (mem_c (inL_13 (List.mem_of_getElem? (i := 2) rfl)) (mem_c (inL_13 (List.mem_of_getElem? (i := 3) rfl)) (mem_c (inL_1 (List.mem_of_getElem? (i := 5) rfl)) (mem_c (inL_13 (List.mem_of_getElem? (i := 4) rfl)) (mem_c (inL_11 (List.mem_of_getElem? (i := 14) rfl)) (mem_c (inL_11 (List.mem_of_getElem? (i := 15) rfl)) (mem_c (inL_11 (List.mem_of_getElem? (i := 16) rfl)) (mem_c (inL_31 (List.mem_of_getElem? (i := 11) rfl)) (mem_c (inL_31 (List.mem_of_getElem? (i := 12) rfl)) (mem_c (inL_31 (List.mem_of_getElem? (i := 13) rfl)) (mem_c (inL_31 (List.mem_of_getElem? (i := 14) rfl)) (fun w h => absurd h List.not_mem_nil)))))))))))))) inlX12)) (by decide +kernel)
set_option maxRecDepth 20000 in
theorem gL_law_X12_boat : GoodIn wsL_law (wsV RL 81 RX12 yX12_boat wsX12_boat) := goodIn_app (goodIn_sub (mem_c (inL_33 (List.mem_of_getElem? (i := 8) rfl)) (mem_c (inL_33 (List.mem_of_getElem? (i := 9) rfl)) (mem_c (inL_33 (List.mem_of_getElem? (i := 10) rfl)) (mem_c (inL_1 (List.mem_of_getElem? (i := 5) rfl)) (fun w h => absurd h List.not_mem_nil))))) (by decide +kernel)) ggL_law_X12_boat
set_option maxRecDepth 20000 in
theorem ggL_law_X11_pay : GoodIn wsL_law wsX11_pay := goodIn_sub (mem_c (inL_33 (List.mem_of_getElem? (i := 15) rfl)) (mem_app (mem_app (mem_app (mem_app (mem_c (inL_33 (List.mem_of_getElem? (i := 16) rfl)) (mem_c (inL_33 (List.mem_of_getElem? (i := 17) rfl)) (mem_c (inL_2 (List.mem_of_getElem? (i := 1) rfl)) (mem_c (inL_25 (List.mem_of_getElem? (i := 19) rfl)) (mem_c (inL_25 (List.mem_of_getElem? (i := 20) rfl)) (mem_c (inL_33 (List.mem_of_getElem? (i := 18) rfl)) (mem_c (inL_33 (List.mem_of_getElem? (i := 19) rfl)) (mem_c (inL_33 (List.mem_of_getElem? (i := 20) rfl)) (mem_c (inL_11 (List.mem_of_getElem? (i := 7) rfl)) (mem_c (inL_11 (List.mem_of_getElem? (i := 8) rfl)) (mem_c (inL_1 (List.mem_of_getElem? (i := 2) rfl)) (mem_c (inL_11 (List.mem_of_getElem? (i := 9) rfl)) (mem_c (inL_10 (List.mem_of_getElem? (i := 19) rfl)) (mem_c (inL_10 (List.mem_of_getElem? (i := 20) rfl)) (mem_c (inL_10 (List.mem_of_getElem? (i := 21) rfl)) (mem_c (inL_33 (List.mem_of_getElem? (i := 21) rfl)) (mem_c (inL_33 (List.mem_of_getElem? (i := 22) rfl)) (mem_c (inL_33 (List.mem_of_getElem? (i := 23) rfl)) (mem_c (inL_4 (List.mem_of_getElem? (i := 15) rfl)) (mem_c (inL_34 (List.mem_of_getElem? (i := 0) rfl)) (mem_c (inL_5 (List.mem_of_getElem? (i := 23) rfl)) (mem_c (inL_34 (List.mem_of_getElem? (i := 1) rfl)) (mem_c (inL_34 (List.mem_of_getElem? (i := 2) rfl)) (mem_c (inL_34 (List.mem_of_getElem? (i := 3) rfl)) (fun w h => absurd h List.not_mem_nil))))))))))))))))))))))))) (mem_c (inL_34 (List.mem_of_getElem? (i := 4) rfl)) (mem_c (inL_5 (List.mem_of_getElem? (i := 16) rfl)) (mem_c (inL_5 (List.mem_of_getElem? (i := 22) rfl)) (fun w h => absurd h List.not_mem_nil))))) inlX11) inlX0) inlX4)) (by decide +kernel)
set_option maxRecDepth 20000 in
theorem gL_law_X11_pay : GoodIn wsL_law (wsV RL 82 RX11 yX11_pay wsX11_pay) := goodIn_app (goodIn_sub (mem_c (inL_33 (List.mem_of_getElem? (i := 12) rfl)) (mem_c (inL_33 (List.mem_of_getElem? (i := 13) rfl)) (mem_c (inL_33 (List.mem_of_getElem? (i := 14) rfl)) (mem_c (inL_1 (List.mem_of_getElem? (i := 2) rfl)) (fun w h => absurd h List.not_mem_nil))))) (by decide +kernel)) ggL_law_X11_pay
set_option maxRecDepth 20000 in
theorem ggL_law_X12_pay : GoodIn wsL_law wsX12_pay := goodIn_sub (mem_c (inL_34 (List.mem_of_getElem? (i := 8) rfl)) (mem_app (mem_c (inL_34 (List.mem_of_getElem? (i := 9) rfl)) (mem_c (inL_34 (List.mem_of_getElem? (i := 10) rfl)) (mem_c (inL_8 (List.mem_of_getElem? (i := 18) rfl)) (mem_c (inL_34 (List.mem_of_getElem? (i := 11) rfl)) (mem_c (inL_9 (List.mem_of_getElem? (i := 2) rfl)) (mem_c (inL_8 (List.mem_of_getElem? (i := 19) rfl)) (mem_c (inL_9 (List.mem_of_getElem? (i := 5) rfl)) (mem_c (inL_9 (List.mem_of_getElem? (i := 8) rfl)) (mem_c (inL_9 (List.mem_of_getElem? (i := 9) rfl)) (mem_c (inL_13 (List.mem_of_getElem? (i := 2) rfl)) (mem_c (inL_13 (List.mem_of_getElem? (i := 3) rfl)) (mem_c (inL_1 (List.mem_of_getElem? (i := 5) rfl)) (mem_c (inL_13 (List.mem_of_getElem? (i := 4) rfl)) (mem_c (inL_11 (List.mem_of_getElem? (i := 14) rfl)) (mem_c (inL_11 (List.mem_of_getElem? (i := 15) rfl)) (mem_c (inL_11 (List.mem_of_getElem? (i := 16) rfl)) (fun w h => absurd h List.not_mem_nil))))))))))))))))) inlX12)) (by decide +kernel)
set_option maxRecDepth 20000 in
theorem gL_law_X12_pay : GoodIn wsL_law (wsV RL 85 RX12 yX12_pay wsX12_pay) := goodIn_app (goodIn_sub (mem_c (inL_34 (List.mem_of_getElem? (i := 5) rfl)) (mem_c (inL_34 (List.mem_of_getElem? (i := 6) rfl)) (mem_c (inL_34 (List.mem_of_getElem? (i := 7) rfl)) (mem_c (inL_1 (List.mem_of_getElem? (i := 5) rfl)) (fun w h => absurd h List.not_mem_nil))))) (by decide +kernel)) ggL_law_X12_pay
set_option maxRecDepth 20000 in
theorem ggL_law_X11_deliver : GoodIn wsL_law wsX11_deliver := goodIn_sub (mem_c (inL_34 (List.mem_of_getElem? (i := 15) rfl)) (mem_app (mem_app (mem_app (mem_c (inL_2 (List.mem_of_getElem? (i := 7) rfl)) (mem_c (inL_34 (List.mem_of_getElem? (i := 16) rfl)) (mem_c (inL_2 (List.mem_of_getElem? (i := 11) rfl)) (mem_c (inL_34 (List.mem_of_getElem? (i := 17) rfl)) (mem_c (inL_11 (List.mem_of_getElem? (i := 7) rfl)) (mem_c (inL_11 (List.mem_of_getElem? (i := 8) rfl)) (mem_c (inL_1 (List.mem_of_getElem? (i := 2) rfl)) (mem_c (inL_11 (List.mem_of_getElem? (i := 9) rfl)) (mem_c (inL_10 (List.mem_of_getElem? (i := 19) rfl)) (mem_c (inL_10 (List.mem_of_getElem? (i := 20) rfl)) (mem_c (inL_10 (List.mem_of_getElem? (i := 21) rfl)) (mem_c (inL_34 (List.mem_of_getElem? (i := 18) rfl)) (mem_c (inL_34 (List.mem_of_getElem? (i := 19) rfl)) (mem_c (inL_34 (List.mem_of_getElem? (i := 20) rfl)) (mem_c (inL_2 (List.mem_of_getElem? (i := 6) rfl)) (mem_c (inL_34 (List.mem_of_getElem? (i := 21) rfl)) (mem_c (inL_6 (List.mem_of_getElem? (i := 14) rfl)) (mem_c (inL_6 (List.mem_of_getElem? (i := 9) rfl)) (mem_c (inL_6 (List.mem_of_getElem? (i := 10) rfl)) (mem_c (inL_6 (List.mem_of_getElem? (i := 11) rfl)) (mem_c (inL_6 (List.mem_of_getElem? (i := 12) rfl)) (mem_c (inL_6 (List.mem_of_getElem? (i := 13) rfl)) (fun w h => absurd h List.not_mem_nil))))))))))))))))))))))) inlX11) inlX2) inlX5)) (by decide +kernel)
set_option maxRecDepth 20000 in
theorem gL_law_X11_deliver : GoodIn wsL_law (wsV RL 86 RX11 yX11_deliver wsX11_deliver) := goodIn_app (goodIn_sub (mem_c (inL_34 (List.mem_of_getElem? (i := 12) rfl)) (mem_c (inL_34 (List.mem_of_getElem? (i := 13) rfl)) (mem_c (inL_34 (List.mem_of_getElem? (i := 14) rfl)) (mem_c (inL_1 (List.mem_of_getElem? (i := 2) rfl)) (fun w h => absurd h List.not_mem_nil))))) (by decide +kernel)) ggL_law_X11_deliver
set_option maxRecDepth 20000 in
theorem ggL_law_X12_deliver : GoodIn wsL_law wsX12_deliver := goodIn_sub (mem_c (inL_35 (List.mem_of_getElem? (i := 1) rfl)) (mem_app (mem_c (inL_35 (List.mem_of_getElem? (i := 2) rfl)) (mem_c (inL_9 (List.mem_of_getElem? (i := 11) rfl)) (mem_c (inL_9 (List.mem_of_getElem? (i := 12) rfl)) (mem_c (inL_9 (List.mem_of_getElem? (i := 13) rfl)) (mem_c (inL_9 (List.mem_of_getElem? (i := 14) rfl)) (mem_c (inL_9 (List.mem_of_getElem? (i := 15) rfl)) (mem_c (inL_35 (List.mem_of_getElem? (i := 3) rfl)) (mem_c (inL_12 (List.mem_of_getElem? (i := 11) rfl)) (mem_c (inL_12 (List.mem_of_getElem? (i := 12) rfl)) (mem_c (inL_1 (List.mem_of_getElem? (i := 5) rfl)) (mem_c (inL_12 (List.mem_of_getElem? (i := 13) rfl)) (mem_c (inL_11 (List.mem_of_getElem? (i := 14) rfl)) (mem_c (inL_11 (List.mem_of_getElem? (i := 15) rfl)) (mem_c (inL_11 (List.mem_of_getElem? (i := 16) rfl)) (fun w h => absurd h List.not_mem_nil))))))))))))))) inlX12)) (by decide +kernel)
set_option maxRecDepth 20000 in
theorem gL_law_X12_deliver : GoodIn wsL_law (wsV RL 89 RX12 yX12_deliver wsX12_deliver) := goodIn_app (goodIn_sub (mem_c (inL_34 (List.mem_of_getElem? (i := 22) rfl)) (mem_c (inL_34 (List.mem_of_getElem? (i := 23) rfl)) (mem_c (inL_35 (List.mem_of_getElem? (i := 0) rfl)) (mem_c (inL_1 (List.mem_of_getElem? (i := 5) rfl)) (fun w h => absurd h List.not_mem_nil))))) (by decide +kernel)) ggL_law_X12_deliver
set_option maxRecDepth 20000 in
theorem ggL_law_X11_crew : GoodIn wsL_law wsX11_crew := goodIn_sub (mem_c (inL_35 (List.mem_of_getElem? (i := 7) rfl)) (mem_app (mem_app (mem_app (mem_c (inL_2 (List.mem_of_getElem? (i := 11) rfl)) (mem_c (inL_34 (List.mem_of_getElem? (i := 17) rfl)) (mem_c (inL_2 (List.mem_of_getElem? (i := 7) rfl)) (mem_c (inL_35 (List.mem_of_getElem? (i := 8) rfl)) (mem_c (inL_35 (List.mem_of_getElem? (i := 9) rfl)) (mem_c (inL_11 (List.mem_of_getElem? (i := 7) rfl)) (mem_c (inL_11 (List.mem_of_getElem? (i := 8) rfl)) (mem_c (inL_1 (List.mem_of_getElem? (i := 2) rfl)) (mem_c (inL_11 (List.mem_of_getElem? (i := 9) rfl)) (mem_c (inL_10 (List.mem_of_getElem? (i := 19) rfl)) (mem_c (inL_10 (List.mem_of_getElem? (i := 20) rfl)) (mem_c (inL_10 (List.mem_of_getElem? (i := 21) rfl)) (fun w h => absurd h List.not_mem_nil))))))))))))) inlX11) inlX5) inlX2)) (by decide +kernel)
set_option maxRecDepth 20000 in
theorem gL_law_X11_crew : GoodIn wsL_law (wsV RL 90 RX11 yX11_crew wsX11_crew) := goodIn_app (goodIn_sub (mem_c (inL_35 (List.mem_of_getElem? (i := 4) rfl)) (mem_c (inL_35 (List.mem_of_getElem? (i := 5) rfl)) (mem_c (inL_35 (List.mem_of_getElem? (i := 6) rfl)) (mem_c (inL_1 (List.mem_of_getElem? (i := 2) rfl)) (fun w h => absurd h List.not_mem_nil))))) (by decide +kernel)) ggL_law_X11_crew
set_option maxRecDepth 20000 in
theorem ggL_law_X12_crew : GoodIn wsL_law wsX12_crew := goodIn_sub (mem_c (inL_35 (List.mem_of_getElem? (i := 13) rfl)) (mem_app (mem_c (inL_9 (List.mem_of_getElem? (i := 16) rfl)) (mem_c (inL_9 (List.mem_of_getElem? (i := 17) rfl)) (mem_c (inL_35 (List.mem_of_getElem? (i := 3) rfl)) (mem_c (inL_11 (List.mem_of_getElem? (i := 14) rfl)) (mem_c (inL_11 (List.mem_of_getElem? (i := 15) rfl)) (mem_c (inL_1 (List.mem_of_getElem? (i := 5) rfl)) (mem_c (inL_11 (List.mem_of_getElem? (i := 16) rfl)) (mem_c (inL_12 (List.mem_of_getElem? (i := 11) rfl)) (mem_c (inL_12 (List.mem_of_getElem? (i := 12) rfl)) (mem_c (inL_12 (List.mem_of_getElem? (i := 13) rfl)) (fun w h => absurd h List.not_mem_nil))))))))))) inlX12)) (by decide +kernel)
set_option maxRecDepth 20000 in
theorem gL_law_X12_crew : GoodIn wsL_law (wsV RL 93 RX12 yX12_crew wsX12_crew) := goodIn_app (goodIn_sub (mem_c (inL_35 (List.mem_of_getElem? (i := 10) rfl)) (mem_c (inL_35 (List.mem_of_getElem? (i := 11) rfl)) (mem_c (inL_35 (List.mem_of_getElem? (i := 12) rfl)) (mem_c (inL_1 (List.mem_of_getElem? (i := 5) rfl)) (fun w h => absurd h List.not_mem_nil))))) (by decide +kernel)) ggL_law_X12_crew
set_option maxRecDepth 20000 in
theorem ggL_law_X11_flight : GoodIn wsL_law wsX11_flight := goodIn_sub (mem_c (inL_35 (List.mem_of_getElem? (i := 17) rfl)) (mem_app (mem_app (mem_app (mem_c (inL_2 (List.mem_of_getElem? (i := 11) rfl)) (mem_c (inL_34 (List.mem_of_getElem? (i := 17) rfl)) (mem_c (inL_2 (List.mem_of_getElem? (i := 7) rfl)) (mem_c (inL_35 (List.mem_of_getElem? (i := 18) rfl)) (mem_c (inL_11 (List.mem_of_getElem? (i := 7) rfl)) (mem_c (inL_11 (List.mem_of_getElem? (i := 8) rfl)) (mem_c (inL_1 (List.mem_of_getElem? (i := 2) rfl)) (mem_c (inL_11 (List.mem_of_getElem? (i := 9) rfl)) (mem_c (inL_10 (List.mem_of_getElem? (i := 19) rfl)) (mem_c (inL_10 (List.mem_of_getElem? (i := 20) rfl)) (mem_c (inL_10 (List.mem_of_getElem? (i := 21) rfl)) (fun w h => absurd h List.not_mem_nil)))))))))))) inlX11) inlX5) inlX2)) (by decide +kernel)
set_option maxRecDepth 20000 in
theorem gL_law_X11_flight : GoodIn wsL_law (wsV RL 94 RX11 yX11_flight wsX11_flight) := goodIn_app (goodIn_sub (mem_c (inL_35 (List.mem_of_getElem? (i := 14) rfl)) (mem_c (inL_35 (List.mem_of_getElem? (i := 15) rfl)) (mem_c (inL_35 (List.mem_of_getElem? (i := 16) rfl)) (mem_c (inL_1 (List.mem_of_getElem? (i := 2) rfl)) (fun w h => absurd h List.not_mem_nil))))) (by decide +kernel)) ggL_law_X11_flight
set_option maxRecDepth 20000 in
theorem ggL_law_X12_flight : GoodIn wsL_law wsX12_flight := goodIn_sub (mem_c (inL_35 (List.mem_of_getElem? (i := 22) rfl)) (mem_app (mem_c (inL_9 (List.mem_of_getElem? (i := 18) rfl)) (mem_c (inL_35 (List.mem_of_getElem? (i := 3) rfl)) (mem_c (inL_12 (List.mem_of_getElem? (i := 11) rfl)) (mem_c (inL_12 (List.mem_of_getElem? (i := 12) rfl)) (mem_c (inL_1 (List.mem_of_getElem? (i := 5) rfl)) (mem_c (inL_12 (List.mem_of_getElem? (i := 13) rfl)) (mem_c (inL_11 (List.mem_of_getElem? (i := 14) rfl)) (mem_c (inL_11 (List.mem_of_getElem? (i := 15) rfl)) (mem_c (inL_11 (List.mem_of_getElem? (i := 16) rfl)) (fun w h => absurd h List.not_mem_nil)))))))))) inlX12)) (by decide +kernel)
set_option maxRecDepth 20000 in
theorem gL_law_X12_flight : GoodIn wsL_law (wsV RL 97 RX12 yX12_flight wsX12_flight) := goodIn_app (goodIn_sub (mem_c (inL_35 (List.mem_of_getElem? (i := 19) rfl)) (mem_c (inL_35 (List.mem_of_getElem? (i := 20) rfl)) (mem_c (inL_35 (List.mem_of_getElem? (i := 21) rfl)) (mem_c (inL_1 (List.mem_of_getElem? (i := 5) rfl)) (fun w h => absurd h List.not_mem_nil))))) (by decide +kernel)) ggL_law_X12_flight
set_option maxRecDepth 20000 in
theorem ggL_law_X11_plan : GoodIn wsL_law wsX11_plan := goodIn_sub (mem_c (inL_36 (List.mem_of_getElem? (i := 2) rfl)) (mem_app (mem_app (mem_app (mem_app (mem_app (mem_c (inL_2 (List.mem_of_getElem? (i := 11) rfl)) (mem_c (inL_34 (List.mem_of_getElem? (i := 17) rfl)) (mem_c (inL_36 (List.mem_of_getElem? (i := 3) rfl)) (mem_c (inL_36 (List.mem_of_getElem? (i := 4) rfl)) (mem_c (inL_36 (List.mem_of_getElem? (i := 5) rfl)) (mem_c (inL_36 (List.mem_of_getElem? (i := 6) rfl)) (mem_c (inL_2 (List.mem_of_getElem? (i := 10) rfl)) (mem_c (inL_36 (List.mem_of_getElem? (i := 7) rfl)) (mem_c (inL_7 (List.mem_of_getElem? (i := 3) rfl)) (mem_c (inL_36 (List.mem_of_getElem? (i := 8) rfl)) (mem_c (inL_7 (List.mem_of_getElem? (i := 9) rfl)) (mem_c (inL_36 (List.mem_of_getElem? (i := 9) rfl)) (mem_c (inL_7 (List.mem_of_getElem? (i := 13) rfl)) (mem_c (inL_7 (List.mem_of_getElem? (i := 6) rfl)) (mem_c (inL_36 (List.mem_of_getElem? (i := 10) rfl)) (mem_c (inL_36 (List.mem_of_getElem? (i := 11) rfl)) (mem_c (inL_6 (List.mem_of_getElem? (i := 20) rfl)) (mem_c (inL_36 (List.mem_of_getElem? (i := 12) rfl)) (mem_c (inL_36 (List.mem_of_getElem? (i := 13) rfl)) (mem_c (inL_36 (List.mem_of_getElem? (i := 14) rfl)) (mem_c (inL_36 (List.mem_of_getElem? (i := 15) rfl)) (mem_c (inL_7 (List.mem_of_getElem? (i := 12) rfl)) (mem_c (inL_36 (List.mem_of_getElem? (i := 16) rfl)) (mem_c (inL_7 (List.mem_of_getElem? (i := 18) rfl)) (fun w h => absurd h List.not_mem_nil))))))))))))))))))))))))) (mem_app (mem_c (inL_7 (List.mem_of_getElem? (i := 20) rfl)) (mem_c (inL_36 (List.mem_of_getElem? (i := 17) rfl)) (mem_c (inL_7 (List.mem_of_getElem? (i := 21) rfl)) (mem_c (inL_7 (List.mem_of_getElem? (i := 22) rfl)) (mem_c (inL_36 (List.mem_of_getElem? (i := 18) rfl)) (mem_c (inL_36 (List.mem_of_getElem? (i := 19) rfl)) (mem_c (inL_36 (List.mem_of_getElem? (i := 20) rfl)) (mem_c (inL_6 (List.mem_of_getElem? (i := 19) rfl)) (mem_c (inL_6 (List.mem_of_getElem? (i := 21) rfl)) (mem_c (inL_36 (List.mem_of_getElem? (i := 21) rfl)) (mem_c (inL_36 (List.mem_of_getElem? (i := 22) rfl)) (mem_c (inL_36 (List.mem_of_getElem? (i := 23) rfl)) (mem_c (inL_37 (List.mem_of_getElem? (i := 0) rfl)) (mem_c (inL_37 (List.mem_of_getElem? (i := 1) rfl)) (mem_c (inL_37 (List.mem_of_getElem? (i := 2) rfl)) (mem_c (inL_37 (List.mem_of_getElem? (i := 3) rfl)) (mem_c (inL_37 (List.mem_of_getElem? (i := 4) rfl)) (mem_c (inL_37 (List.mem_of_getElem? (i := 5) rfl)) (mem_c (inL_37 (List.mem_of_getElem? (i := 6) rfl)) (mem_c (inL_2 (List.mem_of_getElem? (i := 6) rfl)) (mem_c (inL_37 (List.mem_of_getElem? (i := 7) rfl)) (mem_c (inL_6 (List.mem_of_getElem? (i := 9) rfl)) (mem_c (inL_6 (List.mem_of_getElem? (i := 12) rfl)) (mem_c (inL_37 (List.mem_of_getElem? (i := 8) rfl)) (fun w h => absurd h List.not_mem_nil))))))))))))))))))))))))) (mem_app (mem_c (inL_13 (List.mem_of_getElem? (i := 20) rfl)) (mem_c (inL_13 (List.mem_of_getElem? (i := 21) rfl)) (mem_c (inL_13 (List.mem_of_getElem? (i := 22) rfl)) (mem_c (inL_6 (List.mem_of_getElem? (i := 13) rfl)) (mem_c (inL_37 (List.mem_of_getElem? (i := 9) rfl)) (mem_c (inL_37 (List.mem_of_getElem? (i := 10) rfl)) (mem_c (inL_37 (List.mem_of_getElem? (i := 11) rfl)) (mem_c (inL_37 (List.mem_of_getElem? (i := 12) rfl)) (mem_c (inL_6 (List.mem_of_getElem? (i := 17) rfl)) (mem_c (inL_11 (List.mem_of_getElem? (i := 8) rfl)) (mem_c (inL_1 (List.mem_of_getElem? (i := 2) rfl)) (mem_c (inL_11 (List.mem_of_getElem? (i := 9) rfl)) (mem_c (inL_37 (List.mem_of_getElem? (i := 13) rfl)) (mem_c (inL_37 (List.mem_of_getElem? (i := 14) rfl)) (mem_c (inL_37 (List.mem_of_getElem? (i := 15) rfl)) (mem_c (inL_37 (List.mem_of_getElem? (i := 16) rfl)) (mem_c (inL_37 (List.mem_of_getElem? (i := 17) rfl)) (mem_c (inL_37 (List.mem_of_getElem? (i := 18) rfl)) (mem_c (inL_37 (List.mem_of_getElem? (i := 19) rfl)) (mem_c (inL_37 (List.mem_of_getElem? (i := 20) rfl)) (mem_c (inL_37 (List.mem_of_getElem? (i := 21) rfl)) (mem_c (inL_7 (List.mem_of_getElem? (i := 19) rfl)) (mem_c (inL_37 (List.mem_of_getElem? (i := 22) rfl)) (mem_c (inL_37 (List.mem_of_getElem? (i := 23) rfl)) (fun w h => absurd h List.not_mem_nil))))))))))))))))))))))))) (mem_app (mem_c (inL_38 (List.mem_of_getElem? (i := 0) rfl)) (mem_c (inL_38 (List.mem_of_getElem? (i := 1) rfl)) (mem_c (inL_38 (List.mem_of_getElem? (i := 2) rfl)) (mem_c (inL_38 (List.mem_of_getElem? (i := 3) rfl)) (mem_c (inL_38 (List.mem_of_getElem? (i := 4) rfl)) (mem_c (inL_38 (List.mem_of_getElem? (i := 5) rfl)) (mem_c (inL_38 (List.mem_of_getElem? (i := 6) rfl)) (mem_c (inL_38 (List.mem_of_getElem? (i := 7) rfl)) (mem_c (inL_38 (List.mem_of_getElem? (i := 8) rfl)) (mem_c (inL_38 (List.mem_of_getElem? (i := 9) rfl)) (mem_c (inL_38 (List.mem_of_getElem? (i := 10) rfl)) (mem_c (inL_38 (List.mem_of_getElem? (i := 11) rfl)) (mem_c (inL_38 (List.mem_of_getElem? (i := 12) rfl)) (mem_c (inL_38 (List.mem_of_getElem? (i := 13) rfl)) (mem_c (inL_38 (List.mem_of_getElem? (i := 14) rfl)) (mem_c (inL_7 (List.mem_of_getElem? (i := 7) rfl)) (mem_c (inL_38 (List.mem_of_getElem? (i := 15) rfl)) (mem_c (inL_7 (List.mem_of_getElem? (i := 8) rfl)) (mem_c (inL_38 (List.mem_of_getElem? (i := 16) rfl)) (mem_c (inL_38 (List.mem_of_getElem? (i := 17) rfl)) (mem_c (inL_29 (List.mem_of_getElem? (i := 13) rfl)) (mem_c (inL_38 (List.mem_of_getElem? (i := 18) rfl)) (mem_c (inL_38 (List.mem_of_getElem? (i := 19) rfl)) (mem_c (inL_38 (List.mem_of_getElem? (i := 20) rfl)) (fun w h => absurd h List.not_mem_nil))))))))))))))))))))))))) (mem_c (inL_38 (List.mem_of_getElem? (i := 21) rfl)) (mem_c (inL_38 (List.mem_of_getElem? (i := 22) rfl)) (mem_c (inL_38 (List.mem_of_getElem? (i := 23) rfl)) (mem_c (inL_39 (List.mem_of_getElem? (i := 0) rfl)) (mem_c (inL_39 (List.mem_of_getElem? (i := 1) rfl)) (mem_c (inL_7 (List.mem_of_getElem? (i := 4) rfl)) (mem_c (inL_7 (List.mem_of_getElem? (i := 5) rfl)) (mem_c (inL_39 (List.mem_of_getElem? (i := 2) rfl)) (mem_c (inL_39 (List.mem_of_getElem? (i := 3) rfl)) (mem_c (inL_39 (List.mem_of_getElem? (i := 4) rfl)) (mem_c (inL_39 (List.mem_of_getElem? (i := 5) rfl)) (mem_c (inL_39 (List.mem_of_getElem? (i := 6) rfl)) (mem_c (inL_39 (List.mem_of_getElem? (i := 7) rfl)) (mem_c (inL_39 (List.mem_of_getElem? (i := 8) rfl)) (mem_c (inL_39 (List.mem_of_getElem? (i := 9) rfl)) (mem_c (inL_39 (List.mem_of_getElem? (i := 10) rfl)) (fun w h => absurd h List.not_mem_nil))))))))))))))))))))) inlX11) inlX5) inlX2) inlX3)) (by decide +kernel)
set_option maxRecDepth 20000 in
theorem gL_law_X11_plan : GoodIn wsL_law (wsV RL 98 RX11 yX11_plan wsX11_plan) := goodIn_app (goodIn_sub (mem_c (inL_35 (List.mem_of_getElem? (i := 23) rfl)) (mem_c (inL_36 (List.mem_of_getElem? (i := 0) rfl)) (mem_c (inL_36 (List.mem_of_getElem? (i := 1) rfl)) (mem_c (inL_1 (List.mem_of_getElem? (i := 2) rfl)) (fun w h => absurd h List.not_mem_nil))))) (by decide +kernel)) ggL_law_X11_plan
set_option maxRecDepth 20000 in
theorem ggL_law_X12_plan : GoodIn wsL_law wsX12_plan := goodIn_sub (mem_c (inL_39 (List.mem_of_getElem? (i := 14) rfl)) (mem_app (mem_app (mem_c (inL_9 (List.mem_of_getElem? (i := 19) rfl)) (mem_c (inL_9 (List.mem_of_getElem? (i := 20) rfl)) (mem_c (inL_9 (List.mem_of_getElem? (i := 23) rfl)) (mem_c (inL_9 (List.mem_of_getElem? (i := 16) rfl)) (mem_c (inL_9 (List.mem_of_getElem? (i := 17) rfl)) (mem_c (inL_39 (List.mem_of_getElem? (i := 15) rfl)) (mem_c (inL_39 (List.mem_of_getElem? (i := 16) rfl)) (mem_c (inL_35 (List.mem_of_getElem? (i := 2) rfl)) (mem_c (inL_10 (List.mem_of_getElem? (i := 0) rfl)) (mem_c (inL_35 (List.mem_of_getElem? (i := 3) rfl)) (mem_c (inL_39 (List.mem_of_getElem? (i := 17) rfl)) (mem_c (inL_39 (List.mem_of_getElem? (i := 18) rfl)) (mem_c (inL_39 (List.mem_of_getElem? (i := 19) rfl)) (mem_c (inL_1 (List.mem_of_getElem? (i := 5) rfl)) (mem_c (inL_39 (List.mem_of_getElem? (i := 20) rfl)) (mem_c (inL_9 (List.mem_of_getElem? (i := 18) rfl)) (mem_c (inL_9 (List.mem_of_getElem? (i := 11) rfl)) (mem_c (inL_9 (List.mem_of_getElem? (i := 14) rfl)) (mem_c (inL_9 (List.mem_of_getElem? (i := 15) rfl)) (mem_c (inL_9 (List.mem_of_getElem? (i := 12) rfl)) (mem_c (inL_9 (List.mem_of_getElem? (i := 13) rfl)) (mem_c (inL_39 (List.mem_of_getElem? (i := 21) rfl)) (mem_c (inL_39 (List.mem_of_getElem? (i := 22) rfl)) (mem_c (inL_39 (List.mem_of_getElem? (i := 23) rfl)) (fun w h => absurd h List.not_mem_nil))))))))))))))))))))))))) (mem_c (inL_40 (List.mem_of_getElem? (i := 0) rfl)) (mem_c (inL_9 (List.mem_of_getElem? (i := 22) rfl)) (mem_c (inL_9 (List.mem_of_getElem? (i := 21) rfl)) (mem_c (inL_40 (List.mem_of_getElem? (i := 1) rfl)) (mem_c (inL_40 (List.mem_of_getElem? (i := 2) rfl)) (mem_c (inL_40 (List.mem_of_getElem? (i := 3) rfl)) (mem_c (inL_40 (List.mem_of_getElem? (i := 4) rfl)) (fun w h => absurd h List.not_mem_nil))))))))) inlX12)) (by decide +kernel)
set_option maxRecDepth 20000 in
theorem gL_law_X12_plan : GoodIn wsL_law (wsV RL 102 RX12 yX12_plan wsX12_plan) := goodIn_app (goodIn_sub (mem_c (inL_39 (List.mem_of_getElem? (i := 11) rfl)) (mem_c (inL_39 (List.mem_of_getElem? (i := 12) rfl)) (mem_c (inL_39 (List.mem_of_getElem? (i := 13) rfl)) (mem_c (inL_1 (List.mem_of_getElem? (i := 5) rfl)) (fun w h => absurd h List.not_mem_nil))))) (by decide +kernel)) ggL_law_X12_plan
set_option maxRecDepth 20000 in
theorem ggL_law_X11_planned : GoodIn wsL_law wsX11_planned := goodIn_sub (mem_c (inL_40 (List.mem_of_getElem? (i := 8) rfl)) (mem_app (mem_app (mem_app (mem_c (inL_2 (List.mem_of_getElem? (i := 11) rfl)) (mem_c (inL_34 (List.mem_of_getElem? (i := 17) rfl)) (mem_c (inL_40 (List.mem_of_getElem? (i := 9) rfl)) (mem_c (inL_2 (List.mem_of_getElem? (i := 7) rfl)) (mem_c (inL_34 (List.mem_of_getElem? (i := 16) rfl)) (mem_c (inL_40 (List.mem_of_getElem? (i := 10) rfl)) (mem_c (inL_40 (List.mem_of_getElem? (i := 11) rfl)) (mem_c (inL_10 (List.mem_of_getElem? (i := 19) rfl)) (mem_c (inL_10 (List.mem_of_getElem? (i := 20) rfl)) (mem_c (inL_1 (List.mem_of_getElem? (i := 2) rfl)) (mem_c (inL_10 (List.mem_of_getElem? (i := 21) rfl)) (fun w h => absurd h List.not_mem_nil)))))))))))) inlX11) inlX5) inlX2)) (by decide +kernel)
set_option maxRecDepth 20000 in
theorem gL_law_X11_planned : GoodIn wsL_law (wsV RL 103 RX11 yX11_planned wsX11_planned) := goodIn_app (goodIn_sub (mem_c (inL_40 (List.mem_of_getElem? (i := 5) rfl)) (mem_c (inL_40 (List.mem_of_getElem? (i := 6) rfl)) (mem_c (inL_40 (List.mem_of_getElem? (i := 7) rfl)) (mem_c (inL_1 (List.mem_of_getElem? (i := 2) rfl)) (fun w h => absurd h List.not_mem_nil))))) (by decide +kernel)) ggL_law_X11_planned
set_option maxRecDepth 20000 in
theorem ggL_law_X12_planned : GoodIn wsL_law wsX12_planned := goodIn_sub (mem_c (inL_40 (List.mem_of_getElem? (i := 15) rfl)) (mem_app (mem_c (inL_35 (List.mem_of_getElem? (i := 3) rfl)) (mem_c (inL_39 (List.mem_of_getElem? (i := 16) rfl)) (mem_c (inL_35 (List.mem_of_getElem? (i := 2) rfl)) (mem_c (inL_9 (List.mem_of_getElem? (i := 22) rfl)) (mem_c (inL_10 (List.mem_of_getElem? (i := 0) rfl)) (mem_c (inL_11 (List.mem_of_getElem? (i := 14) rfl)) (mem_c (inL_11 (List.mem_of_getElem? (i := 15) rfl)) (mem_c (inL_1 (List.mem_of_getElem? (i := 5) rfl)) (mem_c (inL_11 (List.mem_of_getElem? (i := 16) rfl)) (fun w h => absurd h List.not_mem_nil)))))))))) inlX12)) (by decide +kernel)
set_option maxRecDepth 20000 in
theorem gL_law_X12_planned : GoodIn wsL_law (wsV RL 106 RX12 yX12_planned wsX12_planned) := goodIn_app (goodIn_sub (mem_c (inL_40 (List.mem_of_getElem? (i := 12) rfl)) (mem_c (inL_40 (List.mem_of_getElem? (i := 13) rfl)) (mem_c (inL_40 (List.mem_of_getElem? (i := 14) rfl)) (mem_c (inL_1 (List.mem_of_getElem? (i := 5) rfl)) (fun w h => absurd h List.not_mem_nil))))) (by decide +kernel)) ggL_law_X12_planned
set_option maxRecDepth 20000 in
theorem ggL_law_X11_count : GoodIn wsL_law wsX11_count := goodIn_sub (mem_c (inL_40 (List.mem_of_getElem? (i := 19) rfl)) (mem_app (mem_app (mem_app (mem_app (mem_app (mem_app (mem_app (mem_c (inL_2 (List.mem_of_getElem? (i := 1) rfl)) (mem_c (inL_14 (List.mem_of_getElem? (i := 7) rfl)) (mem_c (inL_14 (List.mem_of_getElem? (i := 8) rfl)) (mem_c (inL_22 (List.mem_of_getElem? (i := 1) rfl)) (mem_c (inL_40 (List.mem_of_getElem? (i := 20) rfl)) (mem_c (inL_1 (List.mem_of_getElem? (i := 23) rfl)) (mem_c (inL_11 (List.mem_of_getElem? (i := 21) rfl)) (mem_c (inL_2 (List.mem_of_getElem? (i := 20) rfl)) (mem_c (inL_2 (List.mem_of_getElem? (i := 7) rfl)) (mem_c (inL_34 (List.mem_of_getElem? (i := 16) rfl)) (mem_c (inL_1 (List.mem_of_getElem? (i := 15) rfl)) (mem_c (inL_10 (List.mem_of_getElem? (i := 5) rfl)) (mem_c (inL_10 (List.mem_of_getElem? (i := 19) rfl)) (mem_c (inL_10 (List.mem_of_getElem? (i := 20) rfl)) (mem_c (inL_1 (List.mem_of_getElem? (i := 2) rfl)) (mem_c (inL_10 (List.mem_of_getElem? (i := 21) rfl)) (mem_c (inL_40 (List.mem_of_getElem? (i := 21) rfl)) (mem_c (inL_40 (List.mem_of_getElem? (i := 22) rfl)) (mem_c (inL_40 (List.mem_of_getElem? (i := 23) rfl)) (mem_c (inL_2 (List.mem_of_getElem? (i := 6) rfl)) (mem_c (inL_41 (List.mem_of_getElem? (i := 0) rfl)) (mem_c (inL_6 (List.mem_of_getElem? (i := 15) rfl)) (fun w h => absurd h List.not_mem_nil))))))))))))))))))))))) inlX11) inlX0) inlX7) inlX1) inlX8) inlX2) inlX9)) (by decide +kernel)
set_option maxRecDepth 20000 in
theorem gL_law_X11_count : GoodIn wsL_law (wsV RL 107 RX11 yX11_count wsX11_count) := goodIn_app (goodIn_sub (mem_c (inL_40 (List.mem_of_getElem? (i := 16) rfl)) (mem_c (inL_40 (List.mem_of_getElem? (i := 17) rfl)) (mem_c (inL_40 (List.mem_of_getElem? (i := 18) rfl)) (mem_c (inL_1 (List.mem_of_getElem? (i := 2) rfl)) (fun w h => absurd h List.not_mem_nil))))) (by decide +kernel)) ggL_law_X11_count
set_option maxRecDepth 20000 in
theorem ggL_law_X12_count : GoodIn wsL_law wsX12_count := goodIn_sub (mem_c (inL_41 (List.mem_of_getElem? (i := 4) rfl)) (mem_app (mem_c (inL_30 (List.mem_of_getElem? (i := 16) rfl)) (mem_c (inL_35 (List.mem_of_getElem? (i := 2) rfl)) (mem_c (inL_9 (List.mem_of_getElem? (i := 16) rfl)) (mem_c (inL_10 (List.mem_of_getElem? (i := 14) rfl)) (mem_c (inL_8 (List.mem_of_getElem? (i := 7) rfl)) (mem_c (inL_8 (List.mem_of_getElem? (i := 9) rfl)) (mem_c (inL_8 (List.mem_of_getElem? (i := 14) rfl)) (mem_c (inL_11 (List.mem_of_getElem? (i := 14) rfl)) (mem_c (inL_11 (List.mem_of_getElem? (i := 15) rfl)) (mem_c (inL_1 (List.mem_of_getElem? (i := 5) rfl)) (mem_c (inL_11 (List.mem_of_getElem? (i := 16) rfl)) (fun w h => absurd h List.not_mem_nil)))))))))))) inlX12)) (by decide +kernel)
set_option maxRecDepth 20000 in
theorem gL_law_X12_count : GoodIn wsL_law (wsV RL 110 RX12 yX12_count wsX12_count) := goodIn_app (goodIn_sub (mem_c (inL_41 (List.mem_of_getElem? (i := 1) rfl)) (mem_c (inL_41 (List.mem_of_getElem? (i := 2) rfl)) (mem_c (inL_41 (List.mem_of_getElem? (i := 3) rfl)) (mem_c (inL_1 (List.mem_of_getElem? (i := 5) rfl)) (fun w h => absurd h List.not_mem_nil))))) (by decide +kernel)) ggL_law_X12_count
theorem bL_law_0 : dk cL_law [(0, .new 7, 3), (3, .dup, 1), (4, .invokespecial 9, 3), (7, .astore_n 1, 1), (8, .new 10, 3), (11, .dup, 1), (12, .invokespecial 12, 3), (15, .astore_n 2, 1), (16, .iconst 0, 1), (17, .istore_n 3, 1), (18, .iload_n 3, 1), (19, .aload_n 0, 1), (20, .arraylength, 1), (21, .bipush 6, 2), (23, .isub, 1), (24, .if_icmp .gt 1011, 3), (27, .aload_n 0, 1), (28, .iload_n 3, 1), (29, .iaload, 1), (30, .bipush 31, 2), (32, .iand, 1), (33, .tableswitch 996 0 22 #[107, 170, 193, 246, 279, 332, 365, 408, 431, 454, 477, 540, 593, 626, 659, 692, 725, 788, 851, 894, 937, 950, 973], 107), (140, .aload_n 1, 1), (141, .aload_n 0, 1), (142, .iload_n 3, 1), (143, .iconst 1, 1), (144, .iadd, 1), (145, .iaload, 1), (146, .aload_n 0, 1), (147, .iload_n 3, 1), (148, .iconst 2, 1), (149, .iadd, 1), (150, .iaload, 1), (151, .aload_n 0, 1), (152, .iload_n 3, 1), (153, .iconst 3, 1), (154, .iadd, 1), (155, .iaload, 1), (156, .aload_n 0, 1), (157, .iload_n 3, 1)] = true := by decide +kernel
theorem dL_law_0 : decode cL_law 0 = .ok (.new 7, 3) := dk_at bL_law_0 0 rfl
theorem dL_law_3 : decode cL_law 3 = .ok (.dup, 1) := dk_at bL_law_0 1 rfl
theorem dL_law_4 : decode cL_law 4 = .ok (.invokespecial 9, 3) := dk_at bL_law_0 2 rfl
theorem dL_law_7 : decode cL_law 7 = .ok (.astore_n 1, 1) := dk_at bL_law_0 3 rfl
theorem dL_law_8 : decode cL_law 8 = .ok (.new 10, 3) := dk_at bL_law_0 4 rfl
theorem dL_law_11 : decode cL_law 11 = .ok (.dup, 1) := dk_at bL_law_0 5 rfl
theorem dL_law_12 : decode cL_law 12 = .ok (.invokespecial 12, 3) := dk_at bL_law_0 6 rfl
theorem dL_law_15 : decode cL_law 15 = .ok (.astore_n 2, 1) := dk_at bL_law_0 7 rfl
theorem dL_law_16 : decode cL_law 16 = .ok (.iconst 0, 1) := dk_at bL_law_0 8 rfl
theorem dL_law_17 : decode cL_law 17 = .ok (.istore_n 3, 1) := dk_at bL_law_0 9 rfl
theorem dL_law_18 : decode cL_law 18 = .ok (.iload_n 3, 1) := dk_at bL_law_0 10 rfl
theorem dL_law_19 : decode cL_law 19 = .ok (.aload_n 0, 1) := dk_at bL_law_0 11 rfl
theorem dL_law_20 : decode cL_law 20 = .ok (.arraylength, 1) := dk_at bL_law_0 12 rfl
theorem dL_law_21 : decode cL_law 21 = .ok (.bipush 6, 2) := dk_at bL_law_0 13 rfl
theorem dL_law_23 : decode cL_law 23 = .ok (.isub, 1) := dk_at bL_law_0 14 rfl
theorem dL_law_24 : decode cL_law 24 = .ok (.if_icmp .gt 1011, 3) := dk_at bL_law_0 15 rfl
theorem dL_law_27 : decode cL_law 27 = .ok (.aload_n 0, 1) := dk_at bL_law_0 16 rfl
theorem dL_law_28 : decode cL_law 28 = .ok (.iload_n 3, 1) := dk_at bL_law_0 17 rfl
theorem dL_law_29 : decode cL_law 29 = .ok (.iaload, 1) := dk_at bL_law_0 18 rfl
theorem dL_law_30 : decode cL_law 30 = .ok (.bipush 31, 2) := dk_at bL_law_0 19 rfl
theorem dL_law_32 : decode cL_law 32 = .ok (.iand, 1) := dk_at bL_law_0 20 rfl
theorem dL_law_33 : decode cL_law 33 = .ok (.tableswitch 996 0 22 #[107, 170, 193, 246, 279, 332, 365, 408, 431, 454, 477, 540, 593, 626, 659, 692, 725, 788, 851, 894, 937, 950, 973], 107) := dk_at bL_law_0 21 rfl
theorem dL_law_140 : decode cL_law 140 = .ok (.aload_n 1, 1) := dk_at bL_law_0 22 rfl
theorem dL_law_141 : decode cL_law 141 = .ok (.aload_n 0, 1) := dk_at bL_law_0 23 rfl
theorem dL_law_142 : decode cL_law 142 = .ok (.iload_n 3, 1) := dk_at bL_law_0 24 rfl
theorem dL_law_143 : decode cL_law 143 = .ok (.iconst 1, 1) := dk_at bL_law_0 25 rfl
theorem dL_law_144 : decode cL_law 144 = .ok (.iadd, 1) := dk_at bL_law_0 26 rfl
theorem dL_law_145 : decode cL_law 145 = .ok (.iaload, 1) := dk_at bL_law_0 27 rfl
theorem dL_law_146 : decode cL_law 146 = .ok (.aload_n 0, 1) := dk_at bL_law_0 28 rfl
theorem dL_law_147 : decode cL_law 147 = .ok (.iload_n 3, 1) := dk_at bL_law_0 29 rfl
theorem dL_law_148 : decode cL_law 148 = .ok (.iconst 2, 1) := dk_at bL_law_0 30 rfl
theorem dL_law_149 : decode cL_law 149 = .ok (.iadd, 1) := dk_at bL_law_0 31 rfl
theorem dL_law_150 : decode cL_law 150 = .ok (.iaload, 1) := dk_at bL_law_0 32 rfl
theorem dL_law_151 : decode cL_law 151 = .ok (.aload_n 0, 1) := dk_at bL_law_0 33 rfl
theorem dL_law_152 : decode cL_law 152 = .ok (.iload_n 3, 1) := dk_at bL_law_0 34 rfl
theorem dL_law_153 : decode cL_law 153 = .ok (.iconst 3, 1) := dk_at bL_law_0 35 rfl
theorem dL_law_154 : decode cL_law 154 = .ok (.iadd, 1) := dk_at bL_law_0 36 rfl
theorem dL_law_155 : decode cL_law 155 = .ok (.iaload, 1) := dk_at bL_law_0 37 rfl
theorem dL_law_156 : decode cL_law 156 = .ok (.aload_n 0, 1) := dk_at bL_law_0 38 rfl
theorem dL_law_157 : decode cL_law 157 = .ok (.iload_n 3, 1) := dk_at bL_law_0 39 rfl
theorem bL_law_158 : dk cL_law [(158, .iconst 4, 1), (159, .iadd, 1), (160, .iaload, 1), (161, .aload_n 0, 1), (162, .iload_n 3, 1), (163, .iconst 5, 1), (164, .iadd, 1), (165, .iaload, 1), (166, .invokevirtual 13, 3), (169, .pop, 1), (170, .aload_n 2, 1), (171, .aload_n 0, 1), (172, .iload_n 3, 1), (173, .iconst 1, 1), (174, .iadd, 1), (175, .iaload, 1), (176, .aload_n 0, 1), (177, .iload_n 3, 1), (178, .iconst 2, 1), (179, .iadd, 1), (180, .iaload, 1), (181, .aload_n 0, 1), (182, .iload_n 3, 1), (183, .iconst 3, 1), (184, .iadd, 1), (185, .iaload, 1), (186, .aload_n 0, 1), (187, .iload_n 3, 1), (188, .iconst 4, 1), (189, .iadd, 1), (190, .iaload, 1), (191, .aload_n 0, 1), (192, .iload_n 3, 1), (193, .iconst 5, 1), (194, .iadd, 1), (195, .iaload, 1), (196, .invokevirtual 17, 3), (199, .pop, 1), (200, .goto 829, 3), (203, .aload_n 1, 1)] = true := by decide +kernel
theorem dL_law_158 : decode cL_law 158 = .ok (.iconst 4, 1) := dk_at bL_law_158 0 rfl
theorem dL_law_159 : decode cL_law 159 = .ok (.iadd, 1) := dk_at bL_law_158 1 rfl
theorem dL_law_160 : decode cL_law 160 = .ok (.iaload, 1) := dk_at bL_law_158 2 rfl
theorem dL_law_161 : decode cL_law 161 = .ok (.aload_n 0, 1) := dk_at bL_law_158 3 rfl
theorem dL_law_162 : decode cL_law 162 = .ok (.iload_n 3, 1) := dk_at bL_law_158 4 rfl
theorem dL_law_163 : decode cL_law 163 = .ok (.iconst 5, 1) := dk_at bL_law_158 5 rfl
theorem dL_law_164 : decode cL_law 164 = .ok (.iadd, 1) := dk_at bL_law_158 6 rfl
theorem dL_law_165 : decode cL_law 165 = .ok (.iaload, 1) := dk_at bL_law_158 7 rfl
theorem dL_law_166 : decode cL_law 166 = .ok (.invokevirtual 13, 3) := dk_at bL_law_158 8 rfl
theorem dL_law_169 : decode cL_law 169 = .ok (.pop, 1) := dk_at bL_law_158 9 rfl
theorem dL_law_170 : decode cL_law 170 = .ok (.aload_n 2, 1) := dk_at bL_law_158 10 rfl
theorem dL_law_171 : decode cL_law 171 = .ok (.aload_n 0, 1) := dk_at bL_law_158 11 rfl
theorem dL_law_172 : decode cL_law 172 = .ok (.iload_n 3, 1) := dk_at bL_law_158 12 rfl
theorem dL_law_173 : decode cL_law 173 = .ok (.iconst 1, 1) := dk_at bL_law_158 13 rfl
theorem dL_law_174 : decode cL_law 174 = .ok (.iadd, 1) := dk_at bL_law_158 14 rfl
theorem dL_law_175 : decode cL_law 175 = .ok (.iaload, 1) := dk_at bL_law_158 15 rfl
theorem dL_law_176 : decode cL_law 176 = .ok (.aload_n 0, 1) := dk_at bL_law_158 16 rfl
theorem dL_law_177 : decode cL_law 177 = .ok (.iload_n 3, 1) := dk_at bL_law_158 17 rfl
theorem dL_law_178 : decode cL_law 178 = .ok (.iconst 2, 1) := dk_at bL_law_158 18 rfl
theorem dL_law_179 : decode cL_law 179 = .ok (.iadd, 1) := dk_at bL_law_158 19 rfl
theorem dL_law_180 : decode cL_law 180 = .ok (.iaload, 1) := dk_at bL_law_158 20 rfl
theorem dL_law_181 : decode cL_law 181 = .ok (.aload_n 0, 1) := dk_at bL_law_158 21 rfl
theorem dL_law_182 : decode cL_law 182 = .ok (.iload_n 3, 1) := dk_at bL_law_158 22 rfl
theorem dL_law_183 : decode cL_law 183 = .ok (.iconst 3, 1) := dk_at bL_law_158 23 rfl
theorem dL_law_184 : decode cL_law 184 = .ok (.iadd, 1) := dk_at bL_law_158 24 rfl
theorem dL_law_185 : decode cL_law 185 = .ok (.iaload, 1) := dk_at bL_law_158 25 rfl
theorem dL_law_186 : decode cL_law 186 = .ok (.aload_n 0, 1) := dk_at bL_law_158 26 rfl
theorem dL_law_187 : decode cL_law 187 = .ok (.iload_n 3, 1) := dk_at bL_law_158 27 rfl
theorem dL_law_188 : decode cL_law 188 = .ok (.iconst 4, 1) := dk_at bL_law_158 28 rfl
theorem dL_law_189 : decode cL_law 189 = .ok (.iadd, 1) := dk_at bL_law_158 29 rfl
theorem dL_law_190 : decode cL_law 190 = .ok (.iaload, 1) := dk_at bL_law_158 30 rfl
theorem dL_law_191 : decode cL_law 191 = .ok (.aload_n 0, 1) := dk_at bL_law_158 31 rfl
theorem dL_law_192 : decode cL_law 192 = .ok (.iload_n 3, 1) := dk_at bL_law_158 32 rfl
theorem dL_law_193 : decode cL_law 193 = .ok (.iconst 5, 1) := dk_at bL_law_158 33 rfl
theorem dL_law_194 : decode cL_law 194 = .ok (.iadd, 1) := dk_at bL_law_158 34 rfl
theorem dL_law_195 : decode cL_law 195 = .ok (.iaload, 1) := dk_at bL_law_158 35 rfl
theorem dL_law_196 : decode cL_law 196 = .ok (.invokevirtual 17, 3) := dk_at bL_law_158 36 rfl
theorem dL_law_199 : decode cL_law 199 = .ok (.pop, 1) := dk_at bL_law_158 37 rfl
theorem dL_law_200 : decode cL_law 200 = .ok (.goto 829, 3) := dk_at bL_law_158 38 rfl
theorem dL_law_203 : decode cL_law 203 = .ok (.aload_n 1, 1) := dk_at bL_law_158 39 rfl
theorem bL_law_204 : dk cL_law [(204, .aload_n 0, 1), (205, .iload_n 3, 1), (206, .iconst 1, 1), (207, .iadd, 1), (208, .iaload, 1), (209, .invokevirtual 18, 3), (212, .pop, 1), (213, .aload_n 2, 1), (214, .aload_n 0, 1), (215, .iload_n 3, 1), (216, .iconst 1, 1), (217, .iadd, 1), (218, .iaload, 1), (219, .invokevirtual 22, 3), (222, .pop, 1), (223, .goto 806, 3), (226, .aload_n 1, 1), (227, .aload_n 0, 1), (228, .iload_n 3, 1), (229, .iconst 1, 1), (230, .iadd, 1), (231, .iaload, 1), (232, .aload_n 0, 1), (233, .iload_n 3, 1), (234, .iconst 2, 1), (235, .iadd, 1), (236, .iaload, 1), (237, .aload_n 0, 1), (238, .iload_n 3, 1), (239, .iconst 3, 1), (240, .iadd, 1), (241, .iaload, 1), (242, .aload_n 0, 1), (243, .iload_n 3, 1), (244, .iconst 4, 1), (245, .iadd, 1), (246, .iaload, 1), (247, .invokevirtual 23, 3), (250, .pop, 1), (251, .aload_n 2, 1)] = true := by decide +kernel
theorem dL_law_204 : decode cL_law 204 = .ok (.aload_n 0, 1) := dk_at bL_law_204 0 rfl
theorem dL_law_205 : decode cL_law 205 = .ok (.iload_n 3, 1) := dk_at bL_law_204 1 rfl
theorem dL_law_206 : decode cL_law 206 = .ok (.iconst 1, 1) := dk_at bL_law_204 2 rfl
theorem dL_law_207 : decode cL_law 207 = .ok (.iadd, 1) := dk_at bL_law_204 3 rfl
theorem dL_law_208 : decode cL_law 208 = .ok (.iaload, 1) := dk_at bL_law_204 4 rfl
theorem dL_law_209 : decode cL_law 209 = .ok (.invokevirtual 18, 3) := dk_at bL_law_204 5 rfl
theorem dL_law_212 : decode cL_law 212 = .ok (.pop, 1) := dk_at bL_law_204 6 rfl
theorem dL_law_213 : decode cL_law 213 = .ok (.aload_n 2, 1) := dk_at bL_law_204 7 rfl
theorem dL_law_214 : decode cL_law 214 = .ok (.aload_n 0, 1) := dk_at bL_law_204 8 rfl
theorem dL_law_215 : decode cL_law 215 = .ok (.iload_n 3, 1) := dk_at bL_law_204 9 rfl
theorem dL_law_216 : decode cL_law 216 = .ok (.iconst 1, 1) := dk_at bL_law_204 10 rfl
theorem dL_law_217 : decode cL_law 217 = .ok (.iadd, 1) := dk_at bL_law_204 11 rfl
theorem dL_law_218 : decode cL_law 218 = .ok (.iaload, 1) := dk_at bL_law_204 12 rfl
theorem dL_law_219 : decode cL_law 219 = .ok (.invokevirtual 22, 3) := dk_at bL_law_204 13 rfl
theorem dL_law_222 : decode cL_law 222 = .ok (.pop, 1) := dk_at bL_law_204 14 rfl
theorem dL_law_223 : decode cL_law 223 = .ok (.goto 806, 3) := dk_at bL_law_204 15 rfl
theorem dL_law_226 : decode cL_law 226 = .ok (.aload_n 1, 1) := dk_at bL_law_204 16 rfl
theorem dL_law_227 : decode cL_law 227 = .ok (.aload_n 0, 1) := dk_at bL_law_204 17 rfl
theorem dL_law_228 : decode cL_law 228 = .ok (.iload_n 3, 1) := dk_at bL_law_204 18 rfl
theorem dL_law_229 : decode cL_law 229 = .ok (.iconst 1, 1) := dk_at bL_law_204 19 rfl
theorem dL_law_230 : decode cL_law 230 = .ok (.iadd, 1) := dk_at bL_law_204 20 rfl
theorem dL_law_231 : decode cL_law 231 = .ok (.iaload, 1) := dk_at bL_law_204 21 rfl
theorem dL_law_232 : decode cL_law 232 = .ok (.aload_n 0, 1) := dk_at bL_law_204 22 rfl
theorem dL_law_233 : decode cL_law 233 = .ok (.iload_n 3, 1) := dk_at bL_law_204 23 rfl
theorem dL_law_234 : decode cL_law 234 = .ok (.iconst 2, 1) := dk_at bL_law_204 24 rfl
theorem dL_law_235 : decode cL_law 235 = .ok (.iadd, 1) := dk_at bL_law_204 25 rfl
theorem dL_law_236 : decode cL_law 236 = .ok (.iaload, 1) := dk_at bL_law_204 26 rfl
theorem dL_law_237 : decode cL_law 237 = .ok (.aload_n 0, 1) := dk_at bL_law_204 27 rfl
theorem dL_law_238 : decode cL_law 238 = .ok (.iload_n 3, 1) := dk_at bL_law_204 28 rfl
theorem dL_law_239 : decode cL_law 239 = .ok (.iconst 3, 1) := dk_at bL_law_204 29 rfl
theorem dL_law_240 : decode cL_law 240 = .ok (.iadd, 1) := dk_at bL_law_204 30 rfl
theorem dL_law_241 : decode cL_law 241 = .ok (.iaload, 1) := dk_at bL_law_204 31 rfl
theorem dL_law_242 : decode cL_law 242 = .ok (.aload_n 0, 1) := dk_at bL_law_204 32 rfl
theorem dL_law_243 : decode cL_law 243 = .ok (.iload_n 3, 1) := dk_at bL_law_204 33 rfl
theorem dL_law_244 : decode cL_law 244 = .ok (.iconst 4, 1) := dk_at bL_law_204 34 rfl
theorem dL_law_245 : decode cL_law 245 = .ok (.iadd, 1) := dk_at bL_law_204 35 rfl
theorem dL_law_246 : decode cL_law 246 = .ok (.iaload, 1) := dk_at bL_law_204 36 rfl
theorem dL_law_247 : decode cL_law 247 = .ok (.invokevirtual 23, 3) := dk_at bL_law_204 37 rfl
theorem dL_law_250 : decode cL_law 250 = .ok (.pop, 1) := dk_at bL_law_204 38 rfl
theorem dL_law_251 : decode cL_law 251 = .ok (.aload_n 2, 1) := dk_at bL_law_204 39 rfl
theorem bL_law_252 : dk cL_law [(252, .aload_n 0, 1), (253, .iload_n 3, 1), (254, .iconst 1, 1), (255, .iadd, 1), (256, .iaload, 1), (257, .aload_n 0, 1), (258, .iload_n 3, 1), (259, .iconst 2, 1), (260, .iadd, 1), (261, .iaload, 1), (262, .aload_n 0, 1), (263, .iload_n 3, 1), (264, .iconst 3, 1), (265, .iadd, 1), (266, .iaload, 1), (267, .aload_n 0, 1), (268, .iload_n 3, 1), (269, .iconst 4, 1), (270, .iadd, 1), (271, .iaload, 1), (272, .invokevirtual 27, 3), (275, .pop, 1), (276, .goto 753, 3), (279, .aload_n 1, 1), (280, .aload_n 0, 1), (281, .iload_n 3, 1), (282, .iconst 1, 1), (283, .iadd, 1), (284, .iaload, 1), (285, .aload_n 0, 1), (286, .iload_n 3, 1), (287, .iconst 2, 1), (288, .iadd, 1), (289, .iaload, 1), (290, .invokevirtual 28, 3), (293, .pop, 1), (294, .aload_n 2, 1), (295, .aload_n 0, 1), (296, .iload_n 3, 1), (297, .iconst 1, 1)] = true := by decide +kernel
theorem dL_law_252 : decode cL_law 252 = .ok (.aload_n 0, 1) := dk_at bL_law_252 0 rfl
theorem dL_law_253 : decode cL_law 253 = .ok (.iload_n 3, 1) := dk_at bL_law_252 1 rfl
theorem dL_law_254 : decode cL_law 254 = .ok (.iconst 1, 1) := dk_at bL_law_252 2 rfl
theorem dL_law_255 : decode cL_law 255 = .ok (.iadd, 1) := dk_at bL_law_252 3 rfl
theorem dL_law_256 : decode cL_law 256 = .ok (.iaload, 1) := dk_at bL_law_252 4 rfl
theorem dL_law_257 : decode cL_law 257 = .ok (.aload_n 0, 1) := dk_at bL_law_252 5 rfl
theorem dL_law_258 : decode cL_law 258 = .ok (.iload_n 3, 1) := dk_at bL_law_252 6 rfl
theorem dL_law_259 : decode cL_law 259 = .ok (.iconst 2, 1) := dk_at bL_law_252 7 rfl
theorem dL_law_260 : decode cL_law 260 = .ok (.iadd, 1) := dk_at bL_law_252 8 rfl
theorem dL_law_261 : decode cL_law 261 = .ok (.iaload, 1) := dk_at bL_law_252 9 rfl
theorem dL_law_262 : decode cL_law 262 = .ok (.aload_n 0, 1) := dk_at bL_law_252 10 rfl
theorem dL_law_263 : decode cL_law 263 = .ok (.iload_n 3, 1) := dk_at bL_law_252 11 rfl
theorem dL_law_264 : decode cL_law 264 = .ok (.iconst 3, 1) := dk_at bL_law_252 12 rfl
theorem dL_law_265 : decode cL_law 265 = .ok (.iadd, 1) := dk_at bL_law_252 13 rfl
theorem dL_law_266 : decode cL_law 266 = .ok (.iaload, 1) := dk_at bL_law_252 14 rfl
theorem dL_law_267 : decode cL_law 267 = .ok (.aload_n 0, 1) := dk_at bL_law_252 15 rfl
theorem dL_law_268 : decode cL_law 268 = .ok (.iload_n 3, 1) := dk_at bL_law_252 16 rfl
theorem dL_law_269 : decode cL_law 269 = .ok (.iconst 4, 1) := dk_at bL_law_252 17 rfl
theorem dL_law_270 : decode cL_law 270 = .ok (.iadd, 1) := dk_at bL_law_252 18 rfl
theorem dL_law_271 : decode cL_law 271 = .ok (.iaload, 1) := dk_at bL_law_252 19 rfl
theorem dL_law_272 : decode cL_law 272 = .ok (.invokevirtual 27, 3) := dk_at bL_law_252 20 rfl
theorem dL_law_275 : decode cL_law 275 = .ok (.pop, 1) := dk_at bL_law_252 21 rfl
theorem dL_law_276 : decode cL_law 276 = .ok (.goto 753, 3) := dk_at bL_law_252 22 rfl
theorem dL_law_279 : decode cL_law 279 = .ok (.aload_n 1, 1) := dk_at bL_law_252 23 rfl
theorem dL_law_280 : decode cL_law 280 = .ok (.aload_n 0, 1) := dk_at bL_law_252 24 rfl
theorem dL_law_281 : decode cL_law 281 = .ok (.iload_n 3, 1) := dk_at bL_law_252 25 rfl
theorem dL_law_282 : decode cL_law 282 = .ok (.iconst 1, 1) := dk_at bL_law_252 26 rfl
theorem dL_law_283 : decode cL_law 283 = .ok (.iadd, 1) := dk_at bL_law_252 27 rfl
theorem dL_law_284 : decode cL_law 284 = .ok (.iaload, 1) := dk_at bL_law_252 28 rfl
theorem dL_law_285 : decode cL_law 285 = .ok (.aload_n 0, 1) := dk_at bL_law_252 29 rfl
theorem dL_law_286 : decode cL_law 286 = .ok (.iload_n 3, 1) := dk_at bL_law_252 30 rfl
theorem dL_law_287 : decode cL_law 287 = .ok (.iconst 2, 1) := dk_at bL_law_252 31 rfl
theorem dL_law_288 : decode cL_law 288 = .ok (.iadd, 1) := dk_at bL_law_252 32 rfl
theorem dL_law_289 : decode cL_law 289 = .ok (.iaload, 1) := dk_at bL_law_252 33 rfl
theorem dL_law_290 : decode cL_law 290 = .ok (.invokevirtual 28, 3) := dk_at bL_law_252 34 rfl
theorem dL_law_293 : decode cL_law 293 = .ok (.pop, 1) := dk_at bL_law_252 35 rfl
theorem dL_law_294 : decode cL_law 294 = .ok (.aload_n 2, 1) := dk_at bL_law_252 36 rfl
theorem dL_law_295 : decode cL_law 295 = .ok (.aload_n 0, 1) := dk_at bL_law_252 37 rfl
theorem dL_law_296 : decode cL_law 296 = .ok (.iload_n 3, 1) := dk_at bL_law_252 38 rfl
theorem dL_law_297 : decode cL_law 297 = .ok (.iconst 1, 1) := dk_at bL_law_252 39 rfl
theorem bL_law_298 : dk cL_law [(298, .iadd, 1), (299, .iaload, 1), (300, .aload_n 0, 1), (301, .iload_n 3, 1), (302, .iconst 2, 1), (303, .iadd, 1), (304, .iaload, 1), (305, .invokevirtual 32, 3), (308, .pop, 1), (309, .goto 720, 3), (312, .aload_n 1, 1), (313, .aload_n 0, 1), (314, .iload_n 3, 1), (315, .iconst 1, 1), (316, .iadd, 1), (317, .iaload, 1), (318, .aload_n 0, 1), (319, .iload_n 3, 1), (320, .iconst 2, 1), (321, .iadd, 1), (322, .iaload, 1), (323, .aload_n 0, 1), (324, .iload_n 3, 1), (325, .iconst 3, 1), (326, .iadd, 1), (327, .iaload, 1), (328, .aload_n 0, 1), (329, .iload_n 3, 1), (330, .iconst 4, 1), (331, .iadd, 1), (332, .iaload, 1), (333, .invokevirtual 33, 3), (336, .pop, 1), (337, .aload_n 2, 1), (338, .aload_n 0, 1), (339, .iload_n 3, 1), (340, .iconst 1, 1), (341, .iadd, 1), (342, .iaload, 1), (343, .aload_n 0, 1)] = true := by decide +kernel
theorem dL_law_298 : decode cL_law 298 = .ok (.iadd, 1) := dk_at bL_law_298 0 rfl
theorem dL_law_299 : decode cL_law 299 = .ok (.iaload, 1) := dk_at bL_law_298 1 rfl
theorem dL_law_300 : decode cL_law 300 = .ok (.aload_n 0, 1) := dk_at bL_law_298 2 rfl
theorem dL_law_301 : decode cL_law 301 = .ok (.iload_n 3, 1) := dk_at bL_law_298 3 rfl
theorem dL_law_302 : decode cL_law 302 = .ok (.iconst 2, 1) := dk_at bL_law_298 4 rfl
theorem dL_law_303 : decode cL_law 303 = .ok (.iadd, 1) := dk_at bL_law_298 5 rfl
theorem dL_law_304 : decode cL_law 304 = .ok (.iaload, 1) := dk_at bL_law_298 6 rfl
theorem dL_law_305 : decode cL_law 305 = .ok (.invokevirtual 32, 3) := dk_at bL_law_298 7 rfl
theorem dL_law_308 : decode cL_law 308 = .ok (.pop, 1) := dk_at bL_law_298 8 rfl
theorem dL_law_309 : decode cL_law 309 = .ok (.goto 720, 3) := dk_at bL_law_298 9 rfl
theorem dL_law_312 : decode cL_law 312 = .ok (.aload_n 1, 1) := dk_at bL_law_298 10 rfl
theorem dL_law_313 : decode cL_law 313 = .ok (.aload_n 0, 1) := dk_at bL_law_298 11 rfl
theorem dL_law_314 : decode cL_law 314 = .ok (.iload_n 3, 1) := dk_at bL_law_298 12 rfl
theorem dL_law_315 : decode cL_law 315 = .ok (.iconst 1, 1) := dk_at bL_law_298 13 rfl
theorem dL_law_316 : decode cL_law 316 = .ok (.iadd, 1) := dk_at bL_law_298 14 rfl
theorem dL_law_317 : decode cL_law 317 = .ok (.iaload, 1) := dk_at bL_law_298 15 rfl
theorem dL_law_318 : decode cL_law 318 = .ok (.aload_n 0, 1) := dk_at bL_law_298 16 rfl
theorem dL_law_319 : decode cL_law 319 = .ok (.iload_n 3, 1) := dk_at bL_law_298 17 rfl
theorem dL_law_320 : decode cL_law 320 = .ok (.iconst 2, 1) := dk_at bL_law_298 18 rfl
theorem dL_law_321 : decode cL_law 321 = .ok (.iadd, 1) := dk_at bL_law_298 19 rfl
theorem dL_law_322 : decode cL_law 322 = .ok (.iaload, 1) := dk_at bL_law_298 20 rfl
theorem dL_law_323 : decode cL_law 323 = .ok (.aload_n 0, 1) := dk_at bL_law_298 21 rfl
theorem dL_law_324 : decode cL_law 324 = .ok (.iload_n 3, 1) := dk_at bL_law_298 22 rfl
theorem dL_law_325 : decode cL_law 325 = .ok (.iconst 3, 1) := dk_at bL_law_298 23 rfl
theorem dL_law_326 : decode cL_law 326 = .ok (.iadd, 1) := dk_at bL_law_298 24 rfl
theorem dL_law_327 : decode cL_law 327 = .ok (.iaload, 1) := dk_at bL_law_298 25 rfl
theorem dL_law_328 : decode cL_law 328 = .ok (.aload_n 0, 1) := dk_at bL_law_298 26 rfl
theorem dL_law_329 : decode cL_law 329 = .ok (.iload_n 3, 1) := dk_at bL_law_298 27 rfl
theorem dL_law_330 : decode cL_law 330 = .ok (.iconst 4, 1) := dk_at bL_law_298 28 rfl
theorem dL_law_331 : decode cL_law 331 = .ok (.iadd, 1) := dk_at bL_law_298 29 rfl
theorem dL_law_332 : decode cL_law 332 = .ok (.iaload, 1) := dk_at bL_law_298 30 rfl
theorem dL_law_333 : decode cL_law 333 = .ok (.invokevirtual 33, 3) := dk_at bL_law_298 31 rfl
theorem dL_law_336 : decode cL_law 336 = .ok (.pop, 1) := dk_at bL_law_298 32 rfl
theorem dL_law_337 : decode cL_law 337 = .ok (.aload_n 2, 1) := dk_at bL_law_298 33 rfl
theorem dL_law_338 : decode cL_law 338 = .ok (.aload_n 0, 1) := dk_at bL_law_298 34 rfl
theorem dL_law_339 : decode cL_law 339 = .ok (.iload_n 3, 1) := dk_at bL_law_298 35 rfl
theorem dL_law_340 : decode cL_law 340 = .ok (.iconst 1, 1) := dk_at bL_law_298 36 rfl
theorem dL_law_341 : decode cL_law 341 = .ok (.iadd, 1) := dk_at bL_law_298 37 rfl
theorem dL_law_342 : decode cL_law 342 = .ok (.iaload, 1) := dk_at bL_law_298 38 rfl
theorem dL_law_343 : decode cL_law 343 = .ok (.aload_n 0, 1) := dk_at bL_law_298 39 rfl
theorem bL_law_344 : dk cL_law [(344, .iload_n 3, 1), (345, .iconst 2, 1), (346, .iadd, 1), (347, .iaload, 1), (348, .aload_n 0, 1), (349, .iload_n 3, 1), (350, .iconst 3, 1), (351, .iadd, 1), (352, .iaload, 1), (353, .aload_n 0, 1), (354, .iload_n 3, 1), (355, .iconst 4, 1), (356, .iadd, 1), (357, .iaload, 1), (358, .invokevirtual 36, 3), (361, .pop, 1), (362, .goto 667, 3), (365, .aload_n 1, 1), (366, .aload_n 0, 1), (367, .iload_n 3, 1), (368, .iconst 1, 1), (369, .iadd, 1), (370, .iaload, 1), (371, .aload_n 0, 1), (372, .iload_n 3, 1), (373, .iconst 2, 1), (374, .iadd, 1), (375, .iaload, 1), (376, .invokevirtual 37, 3), (379, .pop, 1), (380, .aload_n 2, 1), (381, .aload_n 0, 1), (382, .iload_n 3, 1), (383, .iconst 1, 1), (384, .iadd, 1), (385, .iaload, 1), (386, .aload_n 0, 1), (387, .iload_n 3, 1), (388, .iconst 2, 1), (389, .iadd, 1)] = true := by decide +kernel
theorem dL_law_344 : decode cL_law 344 = .ok (.iload_n 3, 1) := dk_at bL_law_344 0 rfl
theorem dL_law_345 : decode cL_law 345 = .ok (.iconst 2, 1) := dk_at bL_law_344 1 rfl
theorem dL_law_346 : decode cL_law 346 = .ok (.iadd, 1) := dk_at bL_law_344 2 rfl
theorem dL_law_347 : decode cL_law 347 = .ok (.iaload, 1) := dk_at bL_law_344 3 rfl
theorem dL_law_348 : decode cL_law 348 = .ok (.aload_n 0, 1) := dk_at bL_law_344 4 rfl
theorem dL_law_349 : decode cL_law 349 = .ok (.iload_n 3, 1) := dk_at bL_law_344 5 rfl
theorem dL_law_350 : decode cL_law 350 = .ok (.iconst 3, 1) := dk_at bL_law_344 6 rfl
theorem dL_law_351 : decode cL_law 351 = .ok (.iadd, 1) := dk_at bL_law_344 7 rfl
theorem dL_law_352 : decode cL_law 352 = .ok (.iaload, 1) := dk_at bL_law_344 8 rfl
theorem dL_law_353 : decode cL_law 353 = .ok (.aload_n 0, 1) := dk_at bL_law_344 9 rfl
theorem dL_law_354 : decode cL_law 354 = .ok (.iload_n 3, 1) := dk_at bL_law_344 10 rfl
theorem dL_law_355 : decode cL_law 355 = .ok (.iconst 4, 1) := dk_at bL_law_344 11 rfl
theorem dL_law_356 : decode cL_law 356 = .ok (.iadd, 1) := dk_at bL_law_344 12 rfl
theorem dL_law_357 : decode cL_law 357 = .ok (.iaload, 1) := dk_at bL_law_344 13 rfl
theorem dL_law_358 : decode cL_law 358 = .ok (.invokevirtual 36, 3) := dk_at bL_law_344 14 rfl
theorem dL_law_361 : decode cL_law 361 = .ok (.pop, 1) := dk_at bL_law_344 15 rfl
theorem dL_law_362 : decode cL_law 362 = .ok (.goto 667, 3) := dk_at bL_law_344 16 rfl
theorem dL_law_365 : decode cL_law 365 = .ok (.aload_n 1, 1) := dk_at bL_law_344 17 rfl
theorem dL_law_366 : decode cL_law 366 = .ok (.aload_n 0, 1) := dk_at bL_law_344 18 rfl
theorem dL_law_367 : decode cL_law 367 = .ok (.iload_n 3, 1) := dk_at bL_law_344 19 rfl
theorem dL_law_368 : decode cL_law 368 = .ok (.iconst 1, 1) := dk_at bL_law_344 20 rfl
theorem dL_law_369 : decode cL_law 369 = .ok (.iadd, 1) := dk_at bL_law_344 21 rfl
theorem dL_law_370 : decode cL_law 370 = .ok (.iaload, 1) := dk_at bL_law_344 22 rfl
theorem dL_law_371 : decode cL_law 371 = .ok (.aload_n 0, 1) := dk_at bL_law_344 23 rfl
theorem dL_law_372 : decode cL_law 372 = .ok (.iload_n 3, 1) := dk_at bL_law_344 24 rfl
theorem dL_law_373 : decode cL_law 373 = .ok (.iconst 2, 1) := dk_at bL_law_344 25 rfl
theorem dL_law_374 : decode cL_law 374 = .ok (.iadd, 1) := dk_at bL_law_344 26 rfl
theorem dL_law_375 : decode cL_law 375 = .ok (.iaload, 1) := dk_at bL_law_344 27 rfl
theorem dL_law_376 : decode cL_law 376 = .ok (.invokevirtual 37, 3) := dk_at bL_law_344 28 rfl
theorem dL_law_379 : decode cL_law 379 = .ok (.pop, 1) := dk_at bL_law_344 29 rfl
theorem dL_law_380 : decode cL_law 380 = .ok (.aload_n 2, 1) := dk_at bL_law_344 30 rfl
theorem dL_law_381 : decode cL_law 381 = .ok (.aload_n 0, 1) := dk_at bL_law_344 31 rfl
theorem dL_law_382 : decode cL_law 382 = .ok (.iload_n 3, 1) := dk_at bL_law_344 32 rfl
theorem dL_law_383 : decode cL_law 383 = .ok (.iconst 1, 1) := dk_at bL_law_344 33 rfl
theorem dL_law_384 : decode cL_law 384 = .ok (.iadd, 1) := dk_at bL_law_344 34 rfl
theorem dL_law_385 : decode cL_law 385 = .ok (.iaload, 1) := dk_at bL_law_344 35 rfl
theorem dL_law_386 : decode cL_law 386 = .ok (.aload_n 0, 1) := dk_at bL_law_344 36 rfl
theorem dL_law_387 : decode cL_law 387 = .ok (.iload_n 3, 1) := dk_at bL_law_344 37 rfl
theorem dL_law_388 : decode cL_law 388 = .ok (.iconst 2, 1) := dk_at bL_law_344 38 rfl
theorem dL_law_389 : decode cL_law 389 = .ok (.iadd, 1) := dk_at bL_law_344 39 rfl
theorem bL_law_390 : dk cL_law [(390, .iaload, 1), (391, .invokevirtual 40, 3), (394, .pop, 1), (395, .goto 634, 3), (398, .aload_n 1, 1), (399, .aload_n 0, 1), (400, .iload_n 3, 1), (401, .iconst 1, 1), (402, .iadd, 1), (403, .iaload, 1), (404, .aload_n 0, 1), (405, .iload_n 3, 1), (406, .iconst 2, 1), (407, .iadd, 1), (408, .iaload, 1), (409, .aload_n 0, 1), (410, .iload_n 3, 1), (411, .iconst 3, 1), (412, .iadd, 1), (413, .iaload, 1), (414, .invokevirtual 41, 3), (417, .pop, 1), (418, .aload_n 2, 1), (419, .aload_n 0, 1), (420, .iload_n 3, 1), (421, .iconst 1, 1), (422, .iadd, 1), (423, .iaload, 1), (424, .aload_n 0, 1), (425, .iload_n 3, 1), (426, .iconst 2, 1), (427, .iadd, 1), (428, .iaload, 1), (429, .aload_n 0, 1), (430, .iload_n 3, 1), (431, .iconst 3, 1), (432, .iadd, 1), (433, .iaload, 1), (434, .invokevirtual 45, 3), (437, .pop, 1)] = true := by decide +kernel
theorem dL_law_390 : decode cL_law 390 = .ok (.iaload, 1) := dk_at bL_law_390 0 rfl
theorem dL_law_391 : decode cL_law 391 = .ok (.invokevirtual 40, 3) := dk_at bL_law_390 1 rfl
theorem dL_law_394 : decode cL_law 394 = .ok (.pop, 1) := dk_at bL_law_390 2 rfl
theorem dL_law_395 : decode cL_law 395 = .ok (.goto 634, 3) := dk_at bL_law_390 3 rfl
theorem dL_law_398 : decode cL_law 398 = .ok (.aload_n 1, 1) := dk_at bL_law_390 4 rfl
theorem dL_law_399 : decode cL_law 399 = .ok (.aload_n 0, 1) := dk_at bL_law_390 5 rfl
theorem dL_law_400 : decode cL_law 400 = .ok (.iload_n 3, 1) := dk_at bL_law_390 6 rfl
theorem dL_law_401 : decode cL_law 401 = .ok (.iconst 1, 1) := dk_at bL_law_390 7 rfl
theorem dL_law_402 : decode cL_law 402 = .ok (.iadd, 1) := dk_at bL_law_390 8 rfl
theorem dL_law_403 : decode cL_law 403 = .ok (.iaload, 1) := dk_at bL_law_390 9 rfl
theorem dL_law_404 : decode cL_law 404 = .ok (.aload_n 0, 1) := dk_at bL_law_390 10 rfl
theorem dL_law_405 : decode cL_law 405 = .ok (.iload_n 3, 1) := dk_at bL_law_390 11 rfl
theorem dL_law_406 : decode cL_law 406 = .ok (.iconst 2, 1) := dk_at bL_law_390 12 rfl
theorem dL_law_407 : decode cL_law 407 = .ok (.iadd, 1) := dk_at bL_law_390 13 rfl
theorem dL_law_408 : decode cL_law 408 = .ok (.iaload, 1) := dk_at bL_law_390 14 rfl
theorem dL_law_409 : decode cL_law 409 = .ok (.aload_n 0, 1) := dk_at bL_law_390 15 rfl
theorem dL_law_410 : decode cL_law 410 = .ok (.iload_n 3, 1) := dk_at bL_law_390 16 rfl
theorem dL_law_411 : decode cL_law 411 = .ok (.iconst 3, 1) := dk_at bL_law_390 17 rfl
theorem dL_law_412 : decode cL_law 412 = .ok (.iadd, 1) := dk_at bL_law_390 18 rfl
theorem dL_law_413 : decode cL_law 413 = .ok (.iaload, 1) := dk_at bL_law_390 19 rfl
theorem dL_law_414 : decode cL_law 414 = .ok (.invokevirtual 41, 3) := dk_at bL_law_390 20 rfl
theorem dL_law_417 : decode cL_law 417 = .ok (.pop, 1) := dk_at bL_law_390 21 rfl
theorem dL_law_418 : decode cL_law 418 = .ok (.aload_n 2, 1) := dk_at bL_law_390 22 rfl
theorem dL_law_419 : decode cL_law 419 = .ok (.aload_n 0, 1) := dk_at bL_law_390 23 rfl
theorem dL_law_420 : decode cL_law 420 = .ok (.iload_n 3, 1) := dk_at bL_law_390 24 rfl
theorem dL_law_421 : decode cL_law 421 = .ok (.iconst 1, 1) := dk_at bL_law_390 25 rfl
theorem dL_law_422 : decode cL_law 422 = .ok (.iadd, 1) := dk_at bL_law_390 26 rfl
theorem dL_law_423 : decode cL_law 423 = .ok (.iaload, 1) := dk_at bL_law_390 27 rfl
theorem dL_law_424 : decode cL_law 424 = .ok (.aload_n 0, 1) := dk_at bL_law_390 28 rfl
theorem dL_law_425 : decode cL_law 425 = .ok (.iload_n 3, 1) := dk_at bL_law_390 29 rfl
theorem dL_law_426 : decode cL_law 426 = .ok (.iconst 2, 1) := dk_at bL_law_390 30 rfl
theorem dL_law_427 : decode cL_law 427 = .ok (.iadd, 1) := dk_at bL_law_390 31 rfl
theorem dL_law_428 : decode cL_law 428 = .ok (.iaload, 1) := dk_at bL_law_390 32 rfl
theorem dL_law_429 : decode cL_law 429 = .ok (.aload_n 0, 1) := dk_at bL_law_390 33 rfl
theorem dL_law_430 : decode cL_law 430 = .ok (.iload_n 3, 1) := dk_at bL_law_390 34 rfl
theorem dL_law_431 : decode cL_law 431 = .ok (.iconst 3, 1) := dk_at bL_law_390 35 rfl
theorem dL_law_432 : decode cL_law 432 = .ok (.iadd, 1) := dk_at bL_law_390 36 rfl
theorem dL_law_433 : decode cL_law 433 = .ok (.iaload, 1) := dk_at bL_law_390 37 rfl
theorem dL_law_434 : decode cL_law 434 = .ok (.invokevirtual 45, 3) := dk_at bL_law_390 38 rfl
theorem dL_law_437 : decode cL_law 437 = .ok (.pop, 1) := dk_at bL_law_390 39 rfl
theorem bL_law_438 : dk cL_law [(438, .goto 591, 3), (441, .aload_n 1, 1), (442, .aload_n 0, 1), (443, .iload_n 3, 1), (444, .iconst 1, 1), (445, .iadd, 1), (446, .iaload, 1), (447, .invokevirtual 46, 3), (450, .pop, 1), (451, .aload_n 2, 1), (452, .aload_n 0, 1), (453, .iload_n 3, 1), (454, .iconst 1, 1), (455, .iadd, 1), (456, .iaload, 1), (457, .invokevirtual 49, 3), (460, .pop, 1), (461, .goto 568, 3), (464, .aload_n 1, 1), (465, .aload_n 0, 1), (466, .iload_n 3, 1), (467, .iconst 1, 1), (468, .iadd, 1), (469, .iaload, 1), (470, .invokevirtual 50, 3), (473, .pop, 1), (474, .aload_n 2, 1), (475, .aload_n 0, 1), (476, .iload_n 3, 1), (477, .iconst 1, 1), (478, .iadd, 1), (479, .iaload, 1), (480, .invokevirtual 53, 3), (483, .pop, 1), (484, .goto 545, 3), (487, .aload_n 1, 1), (488, .aload_n 0, 1), (489, .iload_n 3, 1), (490, .iconst 1, 1), (491, .iadd, 1)] = true := by decide +kernel
theorem dL_law_438 : decode cL_law 438 = .ok (.goto 591, 3) := dk_at bL_law_438 0 rfl
theorem dL_law_441 : decode cL_law 441 = .ok (.aload_n 1, 1) := dk_at bL_law_438 1 rfl
theorem dL_law_442 : decode cL_law 442 = .ok (.aload_n 0, 1) := dk_at bL_law_438 2 rfl
theorem dL_law_443 : decode cL_law 443 = .ok (.iload_n 3, 1) := dk_at bL_law_438 3 rfl
theorem dL_law_444 : decode cL_law 444 = .ok (.iconst 1, 1) := dk_at bL_law_438 4 rfl
theorem dL_law_445 : decode cL_law 445 = .ok (.iadd, 1) := dk_at bL_law_438 5 rfl
theorem dL_law_446 : decode cL_law 446 = .ok (.iaload, 1) := dk_at bL_law_438 6 rfl
theorem dL_law_447 : decode cL_law 447 = .ok (.invokevirtual 46, 3) := dk_at bL_law_438 7 rfl
theorem dL_law_450 : decode cL_law 450 = .ok (.pop, 1) := dk_at bL_law_438 8 rfl
theorem dL_law_451 : decode cL_law 451 = .ok (.aload_n 2, 1) := dk_at bL_law_438 9 rfl
theorem dL_law_452 : decode cL_law 452 = .ok (.aload_n 0, 1) := dk_at bL_law_438 10 rfl
theorem dL_law_453 : decode cL_law 453 = .ok (.iload_n 3, 1) := dk_at bL_law_438 11 rfl
theorem dL_law_454 : decode cL_law 454 = .ok (.iconst 1, 1) := dk_at bL_law_438 12 rfl
theorem dL_law_455 : decode cL_law 455 = .ok (.iadd, 1) := dk_at bL_law_438 13 rfl
theorem dL_law_456 : decode cL_law 456 = .ok (.iaload, 1) := dk_at bL_law_438 14 rfl
theorem dL_law_457 : decode cL_law 457 = .ok (.invokevirtual 49, 3) := dk_at bL_law_438 15 rfl
theorem dL_law_460 : decode cL_law 460 = .ok (.pop, 1) := dk_at bL_law_438 16 rfl
theorem dL_law_461 : decode cL_law 461 = .ok (.goto 568, 3) := dk_at bL_law_438 17 rfl
theorem dL_law_464 : decode cL_law 464 = .ok (.aload_n 1, 1) := dk_at bL_law_438 18 rfl
theorem dL_law_465 : decode cL_law 465 = .ok (.aload_n 0, 1) := dk_at bL_law_438 19 rfl
theorem dL_law_466 : decode cL_law 466 = .ok (.iload_n 3, 1) := dk_at bL_law_438 20 rfl
theorem dL_law_467 : decode cL_law 467 = .ok (.iconst 1, 1) := dk_at bL_law_438 21 rfl
theorem dL_law_468 : decode cL_law 468 = .ok (.iadd, 1) := dk_at bL_law_438 22 rfl
theorem dL_law_469 : decode cL_law 469 = .ok (.iaload, 1) := dk_at bL_law_438 23 rfl
theorem dL_law_470 : decode cL_law 470 = .ok (.invokevirtual 50, 3) := dk_at bL_law_438 24 rfl
theorem dL_law_473 : decode cL_law 473 = .ok (.pop, 1) := dk_at bL_law_438 25 rfl
theorem dL_law_474 : decode cL_law 474 = .ok (.aload_n 2, 1) := dk_at bL_law_438 26 rfl
theorem dL_law_475 : decode cL_law 475 = .ok (.aload_n 0, 1) := dk_at bL_law_438 27 rfl
theorem dL_law_476 : decode cL_law 476 = .ok (.iload_n 3, 1) := dk_at bL_law_438 28 rfl
theorem dL_law_477 : decode cL_law 477 = .ok (.iconst 1, 1) := dk_at bL_law_438 29 rfl
theorem dL_law_478 : decode cL_law 478 = .ok (.iadd, 1) := dk_at bL_law_438 30 rfl
theorem dL_law_479 : decode cL_law 479 = .ok (.iaload, 1) := dk_at bL_law_438 31 rfl
theorem dL_law_480 : decode cL_law 480 = .ok (.invokevirtual 53, 3) := dk_at bL_law_438 32 rfl
theorem dL_law_483 : decode cL_law 483 = .ok (.pop, 1) := dk_at bL_law_438 33 rfl
theorem dL_law_484 : decode cL_law 484 = .ok (.goto 545, 3) := dk_at bL_law_438 34 rfl
theorem dL_law_487 : decode cL_law 487 = .ok (.aload_n 1, 1) := dk_at bL_law_438 35 rfl
theorem dL_law_488 : decode cL_law 488 = .ok (.aload_n 0, 1) := dk_at bL_law_438 36 rfl
theorem dL_law_489 : decode cL_law 489 = .ok (.iload_n 3, 1) := dk_at bL_law_438 37 rfl
theorem dL_law_490 : decode cL_law 490 = .ok (.iconst 1, 1) := dk_at bL_law_438 38 rfl
theorem dL_law_491 : decode cL_law 491 = .ok (.iadd, 1) := dk_at bL_law_438 39 rfl
theorem bL_law_492 : dk cL_law [(492, .iaload, 1), (493, .invokevirtual 54, 3), (496, .pop, 1), (497, .aload_n 2, 1), (498, .aload_n 0, 1), (499, .iload_n 3, 1), (500, .iconst 1, 1), (501, .iadd, 1), (502, .iaload, 1), (503, .invokevirtual 57, 3), (506, .pop, 1), (507, .goto 522, 3), (510, .aload_n 1, 1), (511, .aload_n 0, 1), (512, .iload_n 3, 1), (513, .iconst 1, 1), (514, .iadd, 1), (515, .iaload, 1), (516, .aload_n 0, 1), (517, .iload_n 3, 1), (518, .iconst 2, 1), (519, .iadd, 1), (520, .iaload, 1), (521, .aload_n 0, 1), (522, .iload_n 3, 1), (523, .iconst 3, 1), (524, .iadd, 1), (525, .iaload, 1), (526, .aload_n 0, 1), (527, .iload_n 3, 1), (528, .iconst 4, 1), (529, .iadd, 1), (530, .iaload, 1), (531, .aload_n 0, 1), (532, .iload_n 3, 1), (533, .iconst 5, 1), (534, .iadd, 1), (535, .iaload, 1), (536, .invokevirtual 58, 3), (539, .pop, 1)] = true := by decide +kernel
theorem dL_law_492 : decode cL_law 492 = .ok (.iaload, 1) := dk_at bL_law_492 0 rfl
theorem dL_law_493 : decode cL_law 493 = .ok (.invokevirtual 54, 3) := dk_at bL_law_492 1 rfl
theorem dL_law_496 : decode cL_law 496 = .ok (.pop, 1) := dk_at bL_law_492 2 rfl
theorem dL_law_497 : decode cL_law 497 = .ok (.aload_n 2, 1) := dk_at bL_law_492 3 rfl
theorem dL_law_498 : decode cL_law 498 = .ok (.aload_n 0, 1) := dk_at bL_law_492 4 rfl
theorem dL_law_499 : decode cL_law 499 = .ok (.iload_n 3, 1) := dk_at bL_law_492 5 rfl
theorem dL_law_500 : decode cL_law 500 = .ok (.iconst 1, 1) := dk_at bL_law_492 6 rfl
theorem dL_law_501 : decode cL_law 501 = .ok (.iadd, 1) := dk_at bL_law_492 7 rfl
theorem dL_law_502 : decode cL_law 502 = .ok (.iaload, 1) := dk_at bL_law_492 8 rfl
theorem dL_law_503 : decode cL_law 503 = .ok (.invokevirtual 57, 3) := dk_at bL_law_492 9 rfl
theorem dL_law_506 : decode cL_law 506 = .ok (.pop, 1) := dk_at bL_law_492 10 rfl
theorem dL_law_507 : decode cL_law 507 = .ok (.goto 522, 3) := dk_at bL_law_492 11 rfl
theorem dL_law_510 : decode cL_law 510 = .ok (.aload_n 1, 1) := dk_at bL_law_492 12 rfl
theorem dL_law_511 : decode cL_law 511 = .ok (.aload_n 0, 1) := dk_at bL_law_492 13 rfl
theorem dL_law_512 : decode cL_law 512 = .ok (.iload_n 3, 1) := dk_at bL_law_492 14 rfl
theorem dL_law_513 : decode cL_law 513 = .ok (.iconst 1, 1) := dk_at bL_law_492 15 rfl
theorem dL_law_514 : decode cL_law 514 = .ok (.iadd, 1) := dk_at bL_law_492 16 rfl
theorem dL_law_515 : decode cL_law 515 = .ok (.iaload, 1) := dk_at bL_law_492 17 rfl
theorem dL_law_516 : decode cL_law 516 = .ok (.aload_n 0, 1) := dk_at bL_law_492 18 rfl
theorem dL_law_517 : decode cL_law 517 = .ok (.iload_n 3, 1) := dk_at bL_law_492 19 rfl
theorem dL_law_518 : decode cL_law 518 = .ok (.iconst 2, 1) := dk_at bL_law_492 20 rfl
theorem dL_law_519 : decode cL_law 519 = .ok (.iadd, 1) := dk_at bL_law_492 21 rfl
theorem dL_law_520 : decode cL_law 520 = .ok (.iaload, 1) := dk_at bL_law_492 22 rfl
theorem dL_law_521 : decode cL_law 521 = .ok (.aload_n 0, 1) := dk_at bL_law_492 23 rfl
theorem dL_law_522 : decode cL_law 522 = .ok (.iload_n 3, 1) := dk_at bL_law_492 24 rfl
theorem dL_law_523 : decode cL_law 523 = .ok (.iconst 3, 1) := dk_at bL_law_492 25 rfl
theorem dL_law_524 : decode cL_law 524 = .ok (.iadd, 1) := dk_at bL_law_492 26 rfl
theorem dL_law_525 : decode cL_law 525 = .ok (.iaload, 1) := dk_at bL_law_492 27 rfl
theorem dL_law_526 : decode cL_law 526 = .ok (.aload_n 0, 1) := dk_at bL_law_492 28 rfl
theorem dL_law_527 : decode cL_law 527 = .ok (.iload_n 3, 1) := dk_at bL_law_492 29 rfl
theorem dL_law_528 : decode cL_law 528 = .ok (.iconst 4, 1) := dk_at bL_law_492 30 rfl
theorem dL_law_529 : decode cL_law 529 = .ok (.iadd, 1) := dk_at bL_law_492 31 rfl
theorem dL_law_530 : decode cL_law 530 = .ok (.iaload, 1) := dk_at bL_law_492 32 rfl
theorem dL_law_531 : decode cL_law 531 = .ok (.aload_n 0, 1) := dk_at bL_law_492 33 rfl
theorem dL_law_532 : decode cL_law 532 = .ok (.iload_n 3, 1) := dk_at bL_law_492 34 rfl
theorem dL_law_533 : decode cL_law 533 = .ok (.iconst 5, 1) := dk_at bL_law_492 35 rfl
theorem dL_law_534 : decode cL_law 534 = .ok (.iadd, 1) := dk_at bL_law_492 36 rfl
theorem dL_law_535 : decode cL_law 535 = .ok (.iaload, 1) := dk_at bL_law_492 37 rfl
theorem dL_law_536 : decode cL_law 536 = .ok (.invokevirtual 58, 3) := dk_at bL_law_492 38 rfl
theorem dL_law_539 : decode cL_law 539 = .ok (.pop, 1) := dk_at bL_law_492 39 rfl
theorem bL_law_540 : dk cL_law [(540, .aload_n 2, 1), (541, .aload_n 0, 1), (542, .iload_n 3, 1), (543, .iconst 1, 1), (544, .iadd, 1), (545, .iaload, 1), (546, .aload_n 0, 1), (547, .iload_n 3, 1), (548, .iconst 2, 1), (549, .iadd, 1), (550, .iaload, 1), (551, .aload_n 0, 1), (552, .iload_n 3, 1), (553, .iconst 3, 1), (554, .iadd, 1), (555, .iaload, 1), (556, .aload_n 0, 1), (557, .iload_n 3, 1), (558, .iconst 4, 1), (559, .iadd, 1), (560, .iaload, 1), (561, .aload_n 0, 1), (562, .iload_n 3, 1), (563, .iconst 5, 1), (564, .iadd, 1), (565, .iaload, 1), (566, .invokevirtual 61, 3), (569, .pop, 1), (570, .goto 459, 3), (573, .aload_n 1, 1), (574, .aload_n 0, 1), (575, .iload_n 3, 1), (576, .iconst 1, 1), (577, .iadd, 1), (578, .iaload, 1), (579, .aload_n 0, 1), (580, .iload_n 3, 1), (581, .iconst 2, 1), (582, .iadd, 1), (583, .iaload, 1)] = true := by decide +kernel
theorem dL_law_540 : decode cL_law 540 = .ok (.aload_n 2, 1) := dk_at bL_law_540 0 rfl
theorem dL_law_541 : decode cL_law 541 = .ok (.aload_n 0, 1) := dk_at bL_law_540 1 rfl
theorem dL_law_542 : decode cL_law 542 = .ok (.iload_n 3, 1) := dk_at bL_law_540 2 rfl
theorem dL_law_543 : decode cL_law 543 = .ok (.iconst 1, 1) := dk_at bL_law_540 3 rfl
theorem dL_law_544 : decode cL_law 544 = .ok (.iadd, 1) := dk_at bL_law_540 4 rfl
theorem dL_law_545 : decode cL_law 545 = .ok (.iaload, 1) := dk_at bL_law_540 5 rfl
theorem dL_law_546 : decode cL_law 546 = .ok (.aload_n 0, 1) := dk_at bL_law_540 6 rfl
theorem dL_law_547 : decode cL_law 547 = .ok (.iload_n 3, 1) := dk_at bL_law_540 7 rfl
theorem dL_law_548 : decode cL_law 548 = .ok (.iconst 2, 1) := dk_at bL_law_540 8 rfl
theorem dL_law_549 : decode cL_law 549 = .ok (.iadd, 1) := dk_at bL_law_540 9 rfl
theorem dL_law_550 : decode cL_law 550 = .ok (.iaload, 1) := dk_at bL_law_540 10 rfl
theorem dL_law_551 : decode cL_law 551 = .ok (.aload_n 0, 1) := dk_at bL_law_540 11 rfl
theorem dL_law_552 : decode cL_law 552 = .ok (.iload_n 3, 1) := dk_at bL_law_540 12 rfl
theorem dL_law_553 : decode cL_law 553 = .ok (.iconst 3, 1) := dk_at bL_law_540 13 rfl
theorem dL_law_554 : decode cL_law 554 = .ok (.iadd, 1) := dk_at bL_law_540 14 rfl
theorem dL_law_555 : decode cL_law 555 = .ok (.iaload, 1) := dk_at bL_law_540 15 rfl
theorem dL_law_556 : decode cL_law 556 = .ok (.aload_n 0, 1) := dk_at bL_law_540 16 rfl
theorem dL_law_557 : decode cL_law 557 = .ok (.iload_n 3, 1) := dk_at bL_law_540 17 rfl
theorem dL_law_558 : decode cL_law 558 = .ok (.iconst 4, 1) := dk_at bL_law_540 18 rfl
theorem dL_law_559 : decode cL_law 559 = .ok (.iadd, 1) := dk_at bL_law_540 19 rfl
theorem dL_law_560 : decode cL_law 560 = .ok (.iaload, 1) := dk_at bL_law_540 20 rfl
theorem dL_law_561 : decode cL_law 561 = .ok (.aload_n 0, 1) := dk_at bL_law_540 21 rfl
theorem dL_law_562 : decode cL_law 562 = .ok (.iload_n 3, 1) := dk_at bL_law_540 22 rfl
theorem dL_law_563 : decode cL_law 563 = .ok (.iconst 5, 1) := dk_at bL_law_540 23 rfl
theorem dL_law_564 : decode cL_law 564 = .ok (.iadd, 1) := dk_at bL_law_540 24 rfl
theorem dL_law_565 : decode cL_law 565 = .ok (.iaload, 1) := dk_at bL_law_540 25 rfl
theorem dL_law_566 : decode cL_law 566 = .ok (.invokevirtual 61, 3) := dk_at bL_law_540 26 rfl
theorem dL_law_569 : decode cL_law 569 = .ok (.pop, 1) := dk_at bL_law_540 27 rfl
theorem dL_law_570 : decode cL_law 570 = .ok (.goto 459, 3) := dk_at bL_law_540 28 rfl
theorem dL_law_573 : decode cL_law 573 = .ok (.aload_n 1, 1) := dk_at bL_law_540 29 rfl
theorem dL_law_574 : decode cL_law 574 = .ok (.aload_n 0, 1) := dk_at bL_law_540 30 rfl
theorem dL_law_575 : decode cL_law 575 = .ok (.iload_n 3, 1) := dk_at bL_law_540 31 rfl
theorem dL_law_576 : decode cL_law 576 = .ok (.iconst 1, 1) := dk_at bL_law_540 32 rfl
theorem dL_law_577 : decode cL_law 577 = .ok (.iadd, 1) := dk_at bL_law_540 33 rfl
theorem dL_law_578 : decode cL_law 578 = .ok (.iaload, 1) := dk_at bL_law_540 34 rfl
theorem dL_law_579 : decode cL_law 579 = .ok (.aload_n 0, 1) := dk_at bL_law_540 35 rfl
theorem dL_law_580 : decode cL_law 580 = .ok (.iload_n 3, 1) := dk_at bL_law_540 36 rfl
theorem dL_law_581 : decode cL_law 581 = .ok (.iconst 2, 1) := dk_at bL_law_540 37 rfl
theorem dL_law_582 : decode cL_law 582 = .ok (.iadd, 1) := dk_at bL_law_540 38 rfl
theorem dL_law_583 : decode cL_law 583 = .ok (.iaload, 1) := dk_at bL_law_540 39 rfl
theorem bL_law_584 : dk cL_law [(584, .aload_n 0, 1), (585, .iload_n 3, 1), (586, .iconst 3, 1), (587, .iadd, 1), (588, .iaload, 1), (589, .aload_n 0, 1), (590, .iload_n 3, 1), (591, .iconst 4, 1), (592, .iadd, 1), (593, .iaload, 1), (594, .invokevirtual 62, 3), (597, .pop, 1), (598, .aload_n 2, 1), (599, .aload_n 0, 1), (600, .iload_n 3, 1), (601, .iconst 1, 1), (602, .iadd, 1), (603, .iaload, 1), (604, .aload_n 0, 1), (605, .iload_n 3, 1), (606, .iconst 2, 1), (607, .iadd, 1), (608, .iaload, 1), (609, .aload_n 0, 1), (610, .iload_n 3, 1), (611, .iconst 3, 1), (612, .iadd, 1), (613, .iaload, 1), (614, .aload_n 0, 1), (615, .iload_n 3, 1), (616, .iconst 4, 1), (617, .iadd, 1), (618, .iaload, 1), (619, .invokevirtual 65, 3), (622, .pop, 1), (623, .goto 406, 3), (626, .aload_n 1, 1), (627, .aload_n 0, 1), (628, .iload_n 3, 1), (629, .iconst 1, 1)] = true := by decide +kernel
theorem dL_law_584 : decode cL_law 584 = .ok (.aload_n 0, 1) := dk_at bL_law_584 0 rfl
theorem dL_law_585 : decode cL_law 585 = .ok (.iload_n 3, 1) := dk_at bL_law_584 1 rfl
theorem dL_law_586 : decode cL_law 586 = .ok (.iconst 3, 1) := dk_at bL_law_584 2 rfl
theorem dL_law_587 : decode cL_law 587 = .ok (.iadd, 1) := dk_at bL_law_584 3 rfl
theorem dL_law_588 : decode cL_law 588 = .ok (.iaload, 1) := dk_at bL_law_584 4 rfl
theorem dL_law_589 : decode cL_law 589 = .ok (.aload_n 0, 1) := dk_at bL_law_584 5 rfl
theorem dL_law_590 : decode cL_law 590 = .ok (.iload_n 3, 1) := dk_at bL_law_584 6 rfl
theorem dL_law_591 : decode cL_law 591 = .ok (.iconst 4, 1) := dk_at bL_law_584 7 rfl
theorem dL_law_592 : decode cL_law 592 = .ok (.iadd, 1) := dk_at bL_law_584 8 rfl
theorem dL_law_593 : decode cL_law 593 = .ok (.iaload, 1) := dk_at bL_law_584 9 rfl
theorem dL_law_594 : decode cL_law 594 = .ok (.invokevirtual 62, 3) := dk_at bL_law_584 10 rfl
theorem dL_law_597 : decode cL_law 597 = .ok (.pop, 1) := dk_at bL_law_584 11 rfl
theorem dL_law_598 : decode cL_law 598 = .ok (.aload_n 2, 1) := dk_at bL_law_584 12 rfl
theorem dL_law_599 : decode cL_law 599 = .ok (.aload_n 0, 1) := dk_at bL_law_584 13 rfl
theorem dL_law_600 : decode cL_law 600 = .ok (.iload_n 3, 1) := dk_at bL_law_584 14 rfl
theorem dL_law_601 : decode cL_law 601 = .ok (.iconst 1, 1) := dk_at bL_law_584 15 rfl
theorem dL_law_602 : decode cL_law 602 = .ok (.iadd, 1) := dk_at bL_law_584 16 rfl
theorem dL_law_603 : decode cL_law 603 = .ok (.iaload, 1) := dk_at bL_law_584 17 rfl
theorem dL_law_604 : decode cL_law 604 = .ok (.aload_n 0, 1) := dk_at bL_law_584 18 rfl
theorem dL_law_605 : decode cL_law 605 = .ok (.iload_n 3, 1) := dk_at bL_law_584 19 rfl
theorem dL_law_606 : decode cL_law 606 = .ok (.iconst 2, 1) := dk_at bL_law_584 20 rfl
theorem dL_law_607 : decode cL_law 607 = .ok (.iadd, 1) := dk_at bL_law_584 21 rfl
theorem dL_law_608 : decode cL_law 608 = .ok (.iaload, 1) := dk_at bL_law_584 22 rfl
theorem dL_law_609 : decode cL_law 609 = .ok (.aload_n 0, 1) := dk_at bL_law_584 23 rfl
theorem dL_law_610 : decode cL_law 610 = .ok (.iload_n 3, 1) := dk_at bL_law_584 24 rfl
theorem dL_law_611 : decode cL_law 611 = .ok (.iconst 3, 1) := dk_at bL_law_584 25 rfl
theorem dL_law_612 : decode cL_law 612 = .ok (.iadd, 1) := dk_at bL_law_584 26 rfl
theorem dL_law_613 : decode cL_law 613 = .ok (.iaload, 1) := dk_at bL_law_584 27 rfl
theorem dL_law_614 : decode cL_law 614 = .ok (.aload_n 0, 1) := dk_at bL_law_584 28 rfl
theorem dL_law_615 : decode cL_law 615 = .ok (.iload_n 3, 1) := dk_at bL_law_584 29 rfl
theorem dL_law_616 : decode cL_law 616 = .ok (.iconst 4, 1) := dk_at bL_law_584 30 rfl
theorem dL_law_617 : decode cL_law 617 = .ok (.iadd, 1) := dk_at bL_law_584 31 rfl
theorem dL_law_618 : decode cL_law 618 = .ok (.iaload, 1) := dk_at bL_law_584 32 rfl
theorem dL_law_619 : decode cL_law 619 = .ok (.invokevirtual 65, 3) := dk_at bL_law_584 33 rfl
theorem dL_law_622 : decode cL_law 622 = .ok (.pop, 1) := dk_at bL_law_584 34 rfl
theorem dL_law_623 : decode cL_law 623 = .ok (.goto 406, 3) := dk_at bL_law_584 35 rfl
theorem dL_law_626 : decode cL_law 626 = .ok (.aload_n 1, 1) := dk_at bL_law_584 36 rfl
theorem dL_law_627 : decode cL_law 627 = .ok (.aload_n 0, 1) := dk_at bL_law_584 37 rfl
theorem dL_law_628 : decode cL_law 628 = .ok (.iload_n 3, 1) := dk_at bL_law_584 38 rfl
theorem dL_law_629 : decode cL_law 629 = .ok (.iconst 1, 1) := dk_at bL_law_584 39 rfl
theorem bL_law_630 : dk cL_law [(630, .iadd, 1), (631, .iaload, 1), (632, .aload_n 0, 1), (633, .iload_n 3, 1), (634, .iconst 2, 1), (635, .iadd, 1), (636, .iaload, 1), (637, .invokevirtual 66, 3), (640, .pop, 1), (641, .aload_n 2, 1), (642, .aload_n 0, 1), (643, .iload_n 3, 1), (644, .iconst 1, 1), (645, .iadd, 1), (646, .iaload, 1), (647, .aload_n 0, 1), (648, .iload_n 3, 1), (649, .iconst 2, 1), (650, .iadd, 1), (651, .iaload, 1), (652, .invokevirtual 69, 3), (655, .pop, 1), (656, .goto 373, 3), (659, .aload_n 1, 1), (660, .aload_n 0, 1), (661, .iload_n 3, 1), (662, .iconst 1, 1), (663, .iadd, 1), (664, .iaload, 1), (665, .aload_n 0, 1), (666, .iload_n 3, 1), (667, .iconst 2, 1), (668, .iadd, 1), (669, .iaload, 1), (670, .invokevirtual 70, 3), (673, .pop, 1), (674, .aload_n 2, 1), (675, .aload_n 0, 1), (676, .iload_n 3, 1), (677, .iconst 1, 1)] = true := by decide +kernel
theorem dL_law_630 : decode cL_law 630 = .ok (.iadd, 1) := dk_at bL_law_630 0 rfl
theorem dL_law_631 : decode cL_law 631 = .ok (.iaload, 1) := dk_at bL_law_630 1 rfl
theorem dL_law_632 : decode cL_law 632 = .ok (.aload_n 0, 1) := dk_at bL_law_630 2 rfl
theorem dL_law_633 : decode cL_law 633 = .ok (.iload_n 3, 1) := dk_at bL_law_630 3 rfl
theorem dL_law_634 : decode cL_law 634 = .ok (.iconst 2, 1) := dk_at bL_law_630 4 rfl
theorem dL_law_635 : decode cL_law 635 = .ok (.iadd, 1) := dk_at bL_law_630 5 rfl
theorem dL_law_636 : decode cL_law 636 = .ok (.iaload, 1) := dk_at bL_law_630 6 rfl
theorem dL_law_637 : decode cL_law 637 = .ok (.invokevirtual 66, 3) := dk_at bL_law_630 7 rfl
theorem dL_law_640 : decode cL_law 640 = .ok (.pop, 1) := dk_at bL_law_630 8 rfl
theorem dL_law_641 : decode cL_law 641 = .ok (.aload_n 2, 1) := dk_at bL_law_630 9 rfl
theorem dL_law_642 : decode cL_law 642 = .ok (.aload_n 0, 1) := dk_at bL_law_630 10 rfl
theorem dL_law_643 : decode cL_law 643 = .ok (.iload_n 3, 1) := dk_at bL_law_630 11 rfl
theorem dL_law_644 : decode cL_law 644 = .ok (.iconst 1, 1) := dk_at bL_law_630 12 rfl
theorem dL_law_645 : decode cL_law 645 = .ok (.iadd, 1) := dk_at bL_law_630 13 rfl
theorem dL_law_646 : decode cL_law 646 = .ok (.iaload, 1) := dk_at bL_law_630 14 rfl
theorem dL_law_647 : decode cL_law 647 = .ok (.aload_n 0, 1) := dk_at bL_law_630 15 rfl
theorem dL_law_648 : decode cL_law 648 = .ok (.iload_n 3, 1) := dk_at bL_law_630 16 rfl
theorem dL_law_649 : decode cL_law 649 = .ok (.iconst 2, 1) := dk_at bL_law_630 17 rfl
theorem dL_law_650 : decode cL_law 650 = .ok (.iadd, 1) := dk_at bL_law_630 18 rfl
theorem dL_law_651 : decode cL_law 651 = .ok (.iaload, 1) := dk_at bL_law_630 19 rfl
theorem dL_law_652 : decode cL_law 652 = .ok (.invokevirtual 69, 3) := dk_at bL_law_630 20 rfl
theorem dL_law_655 : decode cL_law 655 = .ok (.pop, 1) := dk_at bL_law_630 21 rfl
theorem dL_law_656 : decode cL_law 656 = .ok (.goto 373, 3) := dk_at bL_law_630 22 rfl
theorem dL_law_659 : decode cL_law 659 = .ok (.aload_n 1, 1) := dk_at bL_law_630 23 rfl
theorem dL_law_660 : decode cL_law 660 = .ok (.aload_n 0, 1) := dk_at bL_law_630 24 rfl
theorem dL_law_661 : decode cL_law 661 = .ok (.iload_n 3, 1) := dk_at bL_law_630 25 rfl
theorem dL_law_662 : decode cL_law 662 = .ok (.iconst 1, 1) := dk_at bL_law_630 26 rfl
theorem dL_law_663 : decode cL_law 663 = .ok (.iadd, 1) := dk_at bL_law_630 27 rfl
theorem dL_law_664 : decode cL_law 664 = .ok (.iaload, 1) := dk_at bL_law_630 28 rfl
theorem dL_law_665 : decode cL_law 665 = .ok (.aload_n 0, 1) := dk_at bL_law_630 29 rfl
theorem dL_law_666 : decode cL_law 666 = .ok (.iload_n 3, 1) := dk_at bL_law_630 30 rfl
theorem dL_law_667 : decode cL_law 667 = .ok (.iconst 2, 1) := dk_at bL_law_630 31 rfl
theorem dL_law_668 : decode cL_law 668 = .ok (.iadd, 1) := dk_at bL_law_630 32 rfl
theorem dL_law_669 : decode cL_law 669 = .ok (.iaload, 1) := dk_at bL_law_630 33 rfl
theorem dL_law_670 : decode cL_law 670 = .ok (.invokevirtual 70, 3) := dk_at bL_law_630 34 rfl
theorem dL_law_673 : decode cL_law 673 = .ok (.pop, 1) := dk_at bL_law_630 35 rfl
theorem dL_law_674 : decode cL_law 674 = .ok (.aload_n 2, 1) := dk_at bL_law_630 36 rfl
theorem dL_law_675 : decode cL_law 675 = .ok (.aload_n 0, 1) := dk_at bL_law_630 37 rfl
theorem dL_law_676 : decode cL_law 676 = .ok (.iload_n 3, 1) := dk_at bL_law_630 38 rfl
theorem dL_law_677 : decode cL_law 677 = .ok (.iconst 1, 1) := dk_at bL_law_630 39 rfl
theorem bL_law_678 : dk cL_law [(678, .iadd, 1), (679, .iaload, 1), (680, .aload_n 0, 1), (681, .iload_n 3, 1), (682, .iconst 2, 1), (683, .iadd, 1), (684, .iaload, 1), (685, .invokevirtual 73, 3), (688, .pop, 1), (689, .goto 340, 3), (692, .aload_n 1, 1), (693, .aload_n 0, 1), (694, .iload_n 3, 1), (695, .iconst 1, 1), (696, .iadd, 1), (697, .iaload, 1), (698, .aload_n 0, 1), (699, .iload_n 3, 1), (700, .iconst 2, 1), (701, .iadd, 1), (702, .iaload, 1), (703, .invokevirtual 74, 3), (706, .pop, 1), (707, .aload_n 2, 1), (708, .aload_n 0, 1), (709, .iload_n 3, 1), (710, .iconst 1, 1), (711, .iadd, 1), (712, .iaload, 1), (713, .aload_n 0, 1), (714, .iload_n 3, 1), (715, .iconst 2, 1), (716, .iadd, 1), (717, .iaload, 1), (718, .invokevirtual 77, 3), (721, .pop, 1), (722, .goto 307, 3), (725, .aload_n 1, 1), (726, .aload_n 0, 1), (727, .iload_n 3, 1)] = true := by decide +kernel
theorem dL_law_678 : decode cL_law 678 = .ok (.iadd, 1) := dk_at bL_law_678 0 rfl
theorem dL_law_679 : decode cL_law 679 = .ok (.iaload, 1) := dk_at bL_law_678 1 rfl
theorem dL_law_680 : decode cL_law 680 = .ok (.aload_n 0, 1) := dk_at bL_law_678 2 rfl
theorem dL_law_681 : decode cL_law 681 = .ok (.iload_n 3, 1) := dk_at bL_law_678 3 rfl
theorem dL_law_682 : decode cL_law 682 = .ok (.iconst 2, 1) := dk_at bL_law_678 4 rfl
theorem dL_law_683 : decode cL_law 683 = .ok (.iadd, 1) := dk_at bL_law_678 5 rfl
theorem dL_law_684 : decode cL_law 684 = .ok (.iaload, 1) := dk_at bL_law_678 6 rfl
theorem dL_law_685 : decode cL_law 685 = .ok (.invokevirtual 73, 3) := dk_at bL_law_678 7 rfl
theorem dL_law_688 : decode cL_law 688 = .ok (.pop, 1) := dk_at bL_law_678 8 rfl
theorem dL_law_689 : decode cL_law 689 = .ok (.goto 340, 3) := dk_at bL_law_678 9 rfl
theorem dL_law_692 : decode cL_law 692 = .ok (.aload_n 1, 1) := dk_at bL_law_678 10 rfl
theorem dL_law_693 : decode cL_law 693 = .ok (.aload_n 0, 1) := dk_at bL_law_678 11 rfl
theorem dL_law_694 : decode cL_law 694 = .ok (.iload_n 3, 1) := dk_at bL_law_678 12 rfl
theorem dL_law_695 : decode cL_law 695 = .ok (.iconst 1, 1) := dk_at bL_law_678 13 rfl
theorem dL_law_696 : decode cL_law 696 = .ok (.iadd, 1) := dk_at bL_law_678 14 rfl
theorem dL_law_697 : decode cL_law 697 = .ok (.iaload, 1) := dk_at bL_law_678 15 rfl
theorem dL_law_698 : decode cL_law 698 = .ok (.aload_n 0, 1) := dk_at bL_law_678 16 rfl
theorem dL_law_699 : decode cL_law 699 = .ok (.iload_n 3, 1) := dk_at bL_law_678 17 rfl
theorem dL_law_700 : decode cL_law 700 = .ok (.iconst 2, 1) := dk_at bL_law_678 18 rfl
theorem dL_law_701 : decode cL_law 701 = .ok (.iadd, 1) := dk_at bL_law_678 19 rfl
theorem dL_law_702 : decode cL_law 702 = .ok (.iaload, 1) := dk_at bL_law_678 20 rfl
theorem dL_law_703 : decode cL_law 703 = .ok (.invokevirtual 74, 3) := dk_at bL_law_678 21 rfl
theorem dL_law_706 : decode cL_law 706 = .ok (.pop, 1) := dk_at bL_law_678 22 rfl
theorem dL_law_707 : decode cL_law 707 = .ok (.aload_n 2, 1) := dk_at bL_law_678 23 rfl
theorem dL_law_708 : decode cL_law 708 = .ok (.aload_n 0, 1) := dk_at bL_law_678 24 rfl
theorem dL_law_709 : decode cL_law 709 = .ok (.iload_n 3, 1) := dk_at bL_law_678 25 rfl
theorem dL_law_710 : decode cL_law 710 = .ok (.iconst 1, 1) := dk_at bL_law_678 26 rfl
theorem dL_law_711 : decode cL_law 711 = .ok (.iadd, 1) := dk_at bL_law_678 27 rfl
theorem dL_law_712 : decode cL_law 712 = .ok (.iaload, 1) := dk_at bL_law_678 28 rfl
theorem dL_law_713 : decode cL_law 713 = .ok (.aload_n 0, 1) := dk_at bL_law_678 29 rfl
theorem dL_law_714 : decode cL_law 714 = .ok (.iload_n 3, 1) := dk_at bL_law_678 30 rfl
theorem dL_law_715 : decode cL_law 715 = .ok (.iconst 2, 1) := dk_at bL_law_678 31 rfl
theorem dL_law_716 : decode cL_law 716 = .ok (.iadd, 1) := dk_at bL_law_678 32 rfl
theorem dL_law_717 : decode cL_law 717 = .ok (.iaload, 1) := dk_at bL_law_678 33 rfl
theorem dL_law_718 : decode cL_law 718 = .ok (.invokevirtual 77, 3) := dk_at bL_law_678 34 rfl
theorem dL_law_721 : decode cL_law 721 = .ok (.pop, 1) := dk_at bL_law_678 35 rfl
theorem dL_law_722 : decode cL_law 722 = .ok (.goto 307, 3) := dk_at bL_law_678 36 rfl
theorem dL_law_725 : decode cL_law 725 = .ok (.aload_n 1, 1) := dk_at bL_law_678 37 rfl
theorem dL_law_726 : decode cL_law 726 = .ok (.aload_n 0, 1) := dk_at bL_law_678 38 rfl
theorem dL_law_727 : decode cL_law 727 = .ok (.iload_n 3, 1) := dk_at bL_law_678 39 rfl
theorem bL_law_728 : dk cL_law [(728, .iconst 1, 1), (729, .iadd, 1), (730, .iaload, 1), (731, .aload_n 0, 1), (732, .iload_n 3, 1), (733, .iconst 2, 1), (734, .iadd, 1), (735, .iaload, 1), (736, .invokevirtual 78, 3), (739, .pop, 1), (740, .aload_n 2, 1), (741, .aload_n 0, 1), (742, .iload_n 3, 1), (743, .iconst 1, 1), (744, .iadd, 1), (745, .iaload, 1), (746, .aload_n 0, 1), (747, .iload_n 3, 1), (748, .iconst 2, 1), (749, .iadd, 1), (750, .iaload, 1), (751, .invokevirtual 81, 3), (754, .pop, 1), (755, .goto 274, 3), (758, .aload_n 1, 1), (759, .aload_n 0, 1), (760, .iload_n 3, 1), (761, .iconst 1, 1), (762, .iadd, 1), (763, .iaload, 1), (764, .aload_n 0, 1), (765, .iload_n 3, 1), (766, .iconst 2, 1), (767, .iadd, 1), (768, .iaload, 1), (769, .aload_n 0, 1), (770, .iload_n 3, 1), (771, .iconst 3, 1), (772, .iadd, 1), (773, .iaload, 1)] = true := by decide +kernel
theorem dL_law_728 : decode cL_law 728 = .ok (.iconst 1, 1) := dk_at bL_law_728 0 rfl
theorem dL_law_729 : decode cL_law 729 = .ok (.iadd, 1) := dk_at bL_law_728 1 rfl
theorem dL_law_730 : decode cL_law 730 = .ok (.iaload, 1) := dk_at bL_law_728 2 rfl
theorem dL_law_731 : decode cL_law 731 = .ok (.aload_n 0, 1) := dk_at bL_law_728 3 rfl
theorem dL_law_732 : decode cL_law 732 = .ok (.iload_n 3, 1) := dk_at bL_law_728 4 rfl
theorem dL_law_733 : decode cL_law 733 = .ok (.iconst 2, 1) := dk_at bL_law_728 5 rfl
theorem dL_law_734 : decode cL_law 734 = .ok (.iadd, 1) := dk_at bL_law_728 6 rfl
theorem dL_law_735 : decode cL_law 735 = .ok (.iaload, 1) := dk_at bL_law_728 7 rfl
theorem dL_law_736 : decode cL_law 736 = .ok (.invokevirtual 78, 3) := dk_at bL_law_728 8 rfl
theorem dL_law_739 : decode cL_law 739 = .ok (.pop, 1) := dk_at bL_law_728 9 rfl
theorem dL_law_740 : decode cL_law 740 = .ok (.aload_n 2, 1) := dk_at bL_law_728 10 rfl
theorem dL_law_741 : decode cL_law 741 = .ok (.aload_n 0, 1) := dk_at bL_law_728 11 rfl
theorem dL_law_742 : decode cL_law 742 = .ok (.iload_n 3, 1) := dk_at bL_law_728 12 rfl
theorem dL_law_743 : decode cL_law 743 = .ok (.iconst 1, 1) := dk_at bL_law_728 13 rfl
theorem dL_law_744 : decode cL_law 744 = .ok (.iadd, 1) := dk_at bL_law_728 14 rfl
theorem dL_law_745 : decode cL_law 745 = .ok (.iaload, 1) := dk_at bL_law_728 15 rfl
theorem dL_law_746 : decode cL_law 746 = .ok (.aload_n 0, 1) := dk_at bL_law_728 16 rfl
theorem dL_law_747 : decode cL_law 747 = .ok (.iload_n 3, 1) := dk_at bL_law_728 17 rfl
theorem dL_law_748 : decode cL_law 748 = .ok (.iconst 2, 1) := dk_at bL_law_728 18 rfl
theorem dL_law_749 : decode cL_law 749 = .ok (.iadd, 1) := dk_at bL_law_728 19 rfl
theorem dL_law_750 : decode cL_law 750 = .ok (.iaload, 1) := dk_at bL_law_728 20 rfl
theorem dL_law_751 : decode cL_law 751 = .ok (.invokevirtual 81, 3) := dk_at bL_law_728 21 rfl
theorem dL_law_754 : decode cL_law 754 = .ok (.pop, 1) := dk_at bL_law_728 22 rfl
theorem dL_law_755 : decode cL_law 755 = .ok (.goto 274, 3) := dk_at bL_law_728 23 rfl
theorem dL_law_758 : decode cL_law 758 = .ok (.aload_n 1, 1) := dk_at bL_law_728 24 rfl
theorem dL_law_759 : decode cL_law 759 = .ok (.aload_n 0, 1) := dk_at bL_law_728 25 rfl
theorem dL_law_760 : decode cL_law 760 = .ok (.iload_n 3, 1) := dk_at bL_law_728 26 rfl
theorem dL_law_761 : decode cL_law 761 = .ok (.iconst 1, 1) := dk_at bL_law_728 27 rfl
theorem dL_law_762 : decode cL_law 762 = .ok (.iadd, 1) := dk_at bL_law_728 28 rfl
theorem dL_law_763 : decode cL_law 763 = .ok (.iaload, 1) := dk_at bL_law_728 29 rfl
theorem dL_law_764 : decode cL_law 764 = .ok (.aload_n 0, 1) := dk_at bL_law_728 30 rfl
theorem dL_law_765 : decode cL_law 765 = .ok (.iload_n 3, 1) := dk_at bL_law_728 31 rfl
theorem dL_law_766 : decode cL_law 766 = .ok (.iconst 2, 1) := dk_at bL_law_728 32 rfl
theorem dL_law_767 : decode cL_law 767 = .ok (.iadd, 1) := dk_at bL_law_728 33 rfl
theorem dL_law_768 : decode cL_law 768 = .ok (.iaload, 1) := dk_at bL_law_728 34 rfl
theorem dL_law_769 : decode cL_law 769 = .ok (.aload_n 0, 1) := dk_at bL_law_728 35 rfl
theorem dL_law_770 : decode cL_law 770 = .ok (.iload_n 3, 1) := dk_at bL_law_728 36 rfl
theorem dL_law_771 : decode cL_law 771 = .ok (.iconst 3, 1) := dk_at bL_law_728 37 rfl
theorem dL_law_772 : decode cL_law 772 = .ok (.iadd, 1) := dk_at bL_law_728 38 rfl
theorem dL_law_773 : decode cL_law 773 = .ok (.iaload, 1) := dk_at bL_law_728 39 rfl
theorem bL_law_774 : dk cL_law [(774, .aload_n 0, 1), (775, .iload_n 3, 1), (776, .iconst 4, 1), (777, .iadd, 1), (778, .iaload, 1), (779, .aload_n 0, 1), (780, .iload_n 3, 1), (781, .iconst 5, 1), (782, .iadd, 1), (783, .iaload, 1), (784, .invokevirtual 82, 3), (787, .pop, 1), (788, .aload_n 2, 1), (789, .aload_n 0, 1), (790, .iload_n 3, 1), (791, .iconst 1, 1), (792, .iadd, 1), (793, .iaload, 1), (794, .aload_n 0, 1), (795, .iload_n 3, 1), (796, .iconst 2, 1), (797, .iadd, 1), (798, .iaload, 1), (799, .aload_n 0, 1), (800, .iload_n 3, 1), (801, .iconst 3, 1), (802, .iadd, 1), (803, .iaload, 1), (804, .aload_n 0, 1), (805, .iload_n 3, 1), (806, .iconst 4, 1), (807, .iadd, 1), (808, .iaload, 1), (809, .aload_n 0, 1), (810, .iload_n 3, 1), (811, .iconst 5, 1), (812, .iadd, 1), (813, .iaload, 1), (814, .invokevirtual 85, 3), (817, .pop, 1)] = true := by decide +kernel
theorem dL_law_774 : decode cL_law 774 = .ok (.aload_n 0, 1) := dk_at bL_law_774 0 rfl
theorem dL_law_775 : decode cL_law 775 = .ok (.iload_n 3, 1) := dk_at bL_law_774 1 rfl
theorem dL_law_776 : decode cL_law 776 = .ok (.iconst 4, 1) := dk_at bL_law_774 2 rfl
theorem dL_law_777 : decode cL_law 777 = .ok (.iadd, 1) := dk_at bL_law_774 3 rfl
theorem dL_law_778 : decode cL_law 778 = .ok (.iaload, 1) := dk_at bL_law_774 4 rfl
theorem dL_law_779 : decode cL_law 779 = .ok (.aload_n 0, 1) := dk_at bL_law_774 5 rfl
theorem dL_law_780 : decode cL_law 780 = .ok (.iload_n 3, 1) := dk_at bL_law_774 6 rfl
theorem dL_law_781 : decode cL_law 781 = .ok (.iconst 5, 1) := dk_at bL_law_774 7 rfl
theorem dL_law_782 : decode cL_law 782 = .ok (.iadd, 1) := dk_at bL_law_774 8 rfl
theorem dL_law_783 : decode cL_law 783 = .ok (.iaload, 1) := dk_at bL_law_774 9 rfl
theorem dL_law_784 : decode cL_law 784 = .ok (.invokevirtual 82, 3) := dk_at bL_law_774 10 rfl
theorem dL_law_787 : decode cL_law 787 = .ok (.pop, 1) := dk_at bL_law_774 11 rfl
theorem dL_law_788 : decode cL_law 788 = .ok (.aload_n 2, 1) := dk_at bL_law_774 12 rfl
theorem dL_law_789 : decode cL_law 789 = .ok (.aload_n 0, 1) := dk_at bL_law_774 13 rfl
theorem dL_law_790 : decode cL_law 790 = .ok (.iload_n 3, 1) := dk_at bL_law_774 14 rfl
theorem dL_law_791 : decode cL_law 791 = .ok (.iconst 1, 1) := dk_at bL_law_774 15 rfl
theorem dL_law_792 : decode cL_law 792 = .ok (.iadd, 1) := dk_at bL_law_774 16 rfl
theorem dL_law_793 : decode cL_law 793 = .ok (.iaload, 1) := dk_at bL_law_774 17 rfl
theorem dL_law_794 : decode cL_law 794 = .ok (.aload_n 0, 1) := dk_at bL_law_774 18 rfl
theorem dL_law_795 : decode cL_law 795 = .ok (.iload_n 3, 1) := dk_at bL_law_774 19 rfl
theorem dL_law_796 : decode cL_law 796 = .ok (.iconst 2, 1) := dk_at bL_law_774 20 rfl
theorem dL_law_797 : decode cL_law 797 = .ok (.iadd, 1) := dk_at bL_law_774 21 rfl
theorem dL_law_798 : decode cL_law 798 = .ok (.iaload, 1) := dk_at bL_law_774 22 rfl
theorem dL_law_799 : decode cL_law 799 = .ok (.aload_n 0, 1) := dk_at bL_law_774 23 rfl
theorem dL_law_800 : decode cL_law 800 = .ok (.iload_n 3, 1) := dk_at bL_law_774 24 rfl
theorem dL_law_801 : decode cL_law 801 = .ok (.iconst 3, 1) := dk_at bL_law_774 25 rfl
theorem dL_law_802 : decode cL_law 802 = .ok (.iadd, 1) := dk_at bL_law_774 26 rfl
theorem dL_law_803 : decode cL_law 803 = .ok (.iaload, 1) := dk_at bL_law_774 27 rfl
theorem dL_law_804 : decode cL_law 804 = .ok (.aload_n 0, 1) := dk_at bL_law_774 28 rfl
theorem dL_law_805 : decode cL_law 805 = .ok (.iload_n 3, 1) := dk_at bL_law_774 29 rfl
theorem dL_law_806 : decode cL_law 806 = .ok (.iconst 4, 1) := dk_at bL_law_774 30 rfl
theorem dL_law_807 : decode cL_law 807 = .ok (.iadd, 1) := dk_at bL_law_774 31 rfl
theorem dL_law_808 : decode cL_law 808 = .ok (.iaload, 1) := dk_at bL_law_774 32 rfl
theorem dL_law_809 : decode cL_law 809 = .ok (.aload_n 0, 1) := dk_at bL_law_774 33 rfl
theorem dL_law_810 : decode cL_law 810 = .ok (.iload_n 3, 1) := dk_at bL_law_774 34 rfl
theorem dL_law_811 : decode cL_law 811 = .ok (.iconst 5, 1) := dk_at bL_law_774 35 rfl
theorem dL_law_812 : decode cL_law 812 = .ok (.iadd, 1) := dk_at bL_law_774 36 rfl
theorem dL_law_813 : decode cL_law 813 = .ok (.iaload, 1) := dk_at bL_law_774 37 rfl
theorem dL_law_814 : decode cL_law 814 = .ok (.invokevirtual 85, 3) := dk_at bL_law_774 38 rfl
theorem dL_law_817 : decode cL_law 817 = .ok (.pop, 1) := dk_at bL_law_774 39 rfl
theorem bL_law_818 : dk cL_law [(818, .goto 211, 3), (821, .aload_n 1, 1), (822, .aload_n 0, 1), (823, .iload_n 3, 1), (824, .iconst 1, 1), (825, .iadd, 1), (826, .iaload, 1), (827, .aload_n 0, 1), (828, .iload_n 3, 1), (829, .iconst 2, 1), (830, .iadd, 1), (831, .iaload, 1), (832, .aload_n 0, 1), (833, .iload_n 3, 1), (834, .iconst 3, 1), (835, .iadd, 1), (836, .iaload, 1), (837, .aload_n 0, 1), (838, .iload_n 3, 1), (839, .iconst 4, 1), (840, .iadd, 1), (841, .iaload, 1), (842, .aload_n 0, 1), (843, .iload_n 3, 1), (844, .iconst 5, 1), (845, .iadd, 1), (846, .iaload, 1), (847, .invokevirtual 86, 3), (850, .pop, 1), (851, .aload_n 2, 1), (852, .aload_n 0, 1), (853, .iload_n 3, 1), (854, .iconst 1, 1), (855, .iadd, 1), (856, .iaload, 1), (857, .aload_n 0, 1), (858, .iload_n 3, 1), (859, .iconst 2, 1), (860, .iadd, 1), (861, .iaload, 1)] = true := by decide +kernel
theorem dL_law_818 : decode cL_law 818 = .ok (.goto 211, 3) := dk_at bL_law_818 0 rfl
theorem dL_law_821 : decode cL_law 821 = .ok (.aload_n 1, 1) := dk_at bL_law_818 1 rfl
theorem dL_law_822 : decode cL_law 822 = .ok (.aload_n 0, 1) := dk_at bL_law_818 2 rfl
theorem dL_law_823 : decode cL_law 823 = .ok (.iload_n 3, 1) := dk_at bL_law_818 3 rfl
theorem dL_law_824 : decode cL_law 824 = .ok (.iconst 1, 1) := dk_at bL_law_818 4 rfl
theorem dL_law_825 : decode cL_law 825 = .ok (.iadd, 1) := dk_at bL_law_818 5 rfl
theorem dL_law_826 : decode cL_law 826 = .ok (.iaload, 1) := dk_at bL_law_818 6 rfl
theorem dL_law_827 : decode cL_law 827 = .ok (.aload_n 0, 1) := dk_at bL_law_818 7 rfl
theorem dL_law_828 : decode cL_law 828 = .ok (.iload_n 3, 1) := dk_at bL_law_818 8 rfl
theorem dL_law_829 : decode cL_law 829 = .ok (.iconst 2, 1) := dk_at bL_law_818 9 rfl
theorem dL_law_830 : decode cL_law 830 = .ok (.iadd, 1) := dk_at bL_law_818 10 rfl
theorem dL_law_831 : decode cL_law 831 = .ok (.iaload, 1) := dk_at bL_law_818 11 rfl
theorem dL_law_832 : decode cL_law 832 = .ok (.aload_n 0, 1) := dk_at bL_law_818 12 rfl
theorem dL_law_833 : decode cL_law 833 = .ok (.iload_n 3, 1) := dk_at bL_law_818 13 rfl
theorem dL_law_834 : decode cL_law 834 = .ok (.iconst 3, 1) := dk_at bL_law_818 14 rfl
theorem dL_law_835 : decode cL_law 835 = .ok (.iadd, 1) := dk_at bL_law_818 15 rfl
theorem dL_law_836 : decode cL_law 836 = .ok (.iaload, 1) := dk_at bL_law_818 16 rfl
theorem dL_law_837 : decode cL_law 837 = .ok (.aload_n 0, 1) := dk_at bL_law_818 17 rfl
theorem dL_law_838 : decode cL_law 838 = .ok (.iload_n 3, 1) := dk_at bL_law_818 18 rfl
theorem dL_law_839 : decode cL_law 839 = .ok (.iconst 4, 1) := dk_at bL_law_818 19 rfl
theorem dL_law_840 : decode cL_law 840 = .ok (.iadd, 1) := dk_at bL_law_818 20 rfl
theorem dL_law_841 : decode cL_law 841 = .ok (.iaload, 1) := dk_at bL_law_818 21 rfl
theorem dL_law_842 : decode cL_law 842 = .ok (.aload_n 0, 1) := dk_at bL_law_818 22 rfl
theorem dL_law_843 : decode cL_law 843 = .ok (.iload_n 3, 1) := dk_at bL_law_818 23 rfl
theorem dL_law_844 : decode cL_law 844 = .ok (.iconst 5, 1) := dk_at bL_law_818 24 rfl
theorem dL_law_845 : decode cL_law 845 = .ok (.iadd, 1) := dk_at bL_law_818 25 rfl
theorem dL_law_846 : decode cL_law 846 = .ok (.iaload, 1) := dk_at bL_law_818 26 rfl
theorem dL_law_847 : decode cL_law 847 = .ok (.invokevirtual 86, 3) := dk_at bL_law_818 27 rfl
theorem dL_law_850 : decode cL_law 850 = .ok (.pop, 1) := dk_at bL_law_818 28 rfl
theorem dL_law_851 : decode cL_law 851 = .ok (.aload_n 2, 1) := dk_at bL_law_818 29 rfl
theorem dL_law_852 : decode cL_law 852 = .ok (.aload_n 0, 1) := dk_at bL_law_818 30 rfl
theorem dL_law_853 : decode cL_law 853 = .ok (.iload_n 3, 1) := dk_at bL_law_818 31 rfl
theorem dL_law_854 : decode cL_law 854 = .ok (.iconst 1, 1) := dk_at bL_law_818 32 rfl
theorem dL_law_855 : decode cL_law 855 = .ok (.iadd, 1) := dk_at bL_law_818 33 rfl
theorem dL_law_856 : decode cL_law 856 = .ok (.iaload, 1) := dk_at bL_law_818 34 rfl
theorem dL_law_857 : decode cL_law 857 = .ok (.aload_n 0, 1) := dk_at bL_law_818 35 rfl
theorem dL_law_858 : decode cL_law 858 = .ok (.iload_n 3, 1) := dk_at bL_law_818 36 rfl
theorem dL_law_859 : decode cL_law 859 = .ok (.iconst 2, 1) := dk_at bL_law_818 37 rfl
theorem dL_law_860 : decode cL_law 860 = .ok (.iadd, 1) := dk_at bL_law_818 38 rfl
theorem dL_law_861 : decode cL_law 861 = .ok (.iaload, 1) := dk_at bL_law_818 39 rfl
theorem bL_law_862 : dk cL_law [(862, .aload_n 0, 1), (863, .iload_n 3, 1), (864, .iconst 3, 1), (865, .iadd, 1), (866, .iaload, 1), (867, .aload_n 0, 1), (868, .iload_n 3, 1), (869, .iconst 4, 1), (870, .iadd, 1), (871, .iaload, 1), (872, .aload_n 0, 1), (873, .iload_n 3, 1), (874, .iconst 5, 1), (875, .iadd, 1), (876, .iaload, 1), (877, .invokevirtual 89, 3), (880, .pop, 1), (881, .goto 148, 3), (884, .aload_n 1, 1), (885, .aload_n 0, 1), (886, .iload_n 3, 1), (887, .iconst 1, 1), (888, .iadd, 1), (889, .iaload, 1), (890, .aload_n 0, 1), (891, .iload_n 3, 1), (892, .iconst 2, 1), (893, .iadd, 1), (894, .iaload, 1), (895, .aload_n 0, 1), (896, .iload_n 3, 1), (897, .iconst 3, 1), (898, .iadd, 1), (899, .iaload, 1), (900, .invokevirtual 90, 3), (903, .pop, 1), (904, .aload_n 2, 1), (905, .aload_n 0, 1), (906, .iload_n 3, 1), (907, .iconst 1, 1)] = true := by decide +kernel
theorem dL_law_862 : decode cL_law 862 = .ok (.aload_n 0, 1) := dk_at bL_law_862 0 rfl
theorem dL_law_863 : decode cL_law 863 = .ok (.iload_n 3, 1) := dk_at bL_law_862 1 rfl
theorem dL_law_864 : decode cL_law 864 = .ok (.iconst 3, 1) := dk_at bL_law_862 2 rfl
theorem dL_law_865 : decode cL_law 865 = .ok (.iadd, 1) := dk_at bL_law_862 3 rfl
theorem dL_law_866 : decode cL_law 866 = .ok (.iaload, 1) := dk_at bL_law_862 4 rfl
theorem dL_law_867 : decode cL_law 867 = .ok (.aload_n 0, 1) := dk_at bL_law_862 5 rfl
theorem dL_law_868 : decode cL_law 868 = .ok (.iload_n 3, 1) := dk_at bL_law_862 6 rfl
theorem dL_law_869 : decode cL_law 869 = .ok (.iconst 4, 1) := dk_at bL_law_862 7 rfl
theorem dL_law_870 : decode cL_law 870 = .ok (.iadd, 1) := dk_at bL_law_862 8 rfl
theorem dL_law_871 : decode cL_law 871 = .ok (.iaload, 1) := dk_at bL_law_862 9 rfl
theorem dL_law_872 : decode cL_law 872 = .ok (.aload_n 0, 1) := dk_at bL_law_862 10 rfl
theorem dL_law_873 : decode cL_law 873 = .ok (.iload_n 3, 1) := dk_at bL_law_862 11 rfl
theorem dL_law_874 : decode cL_law 874 = .ok (.iconst 5, 1) := dk_at bL_law_862 12 rfl
theorem dL_law_875 : decode cL_law 875 = .ok (.iadd, 1) := dk_at bL_law_862 13 rfl
theorem dL_law_876 : decode cL_law 876 = .ok (.iaload, 1) := dk_at bL_law_862 14 rfl
theorem dL_law_877 : decode cL_law 877 = .ok (.invokevirtual 89, 3) := dk_at bL_law_862 15 rfl
theorem dL_law_880 : decode cL_law 880 = .ok (.pop, 1) := dk_at bL_law_862 16 rfl
theorem dL_law_881 : decode cL_law 881 = .ok (.goto 148, 3) := dk_at bL_law_862 17 rfl
theorem dL_law_884 : decode cL_law 884 = .ok (.aload_n 1, 1) := dk_at bL_law_862 18 rfl
theorem dL_law_885 : decode cL_law 885 = .ok (.aload_n 0, 1) := dk_at bL_law_862 19 rfl
theorem dL_law_886 : decode cL_law 886 = .ok (.iload_n 3, 1) := dk_at bL_law_862 20 rfl
theorem dL_law_887 : decode cL_law 887 = .ok (.iconst 1, 1) := dk_at bL_law_862 21 rfl
theorem dL_law_888 : decode cL_law 888 = .ok (.iadd, 1) := dk_at bL_law_862 22 rfl
theorem dL_law_889 : decode cL_law 889 = .ok (.iaload, 1) := dk_at bL_law_862 23 rfl
theorem dL_law_890 : decode cL_law 890 = .ok (.aload_n 0, 1) := dk_at bL_law_862 24 rfl
theorem dL_law_891 : decode cL_law 891 = .ok (.iload_n 3, 1) := dk_at bL_law_862 25 rfl
theorem dL_law_892 : decode cL_law 892 = .ok (.iconst 2, 1) := dk_at bL_law_862 26 rfl
theorem dL_law_893 : decode cL_law 893 = .ok (.iadd, 1) := dk_at bL_law_862 27 rfl
theorem dL_law_894 : decode cL_law 894 = .ok (.iaload, 1) := dk_at bL_law_862 28 rfl
theorem dL_law_895 : decode cL_law 895 = .ok (.aload_n 0, 1) := dk_at bL_law_862 29 rfl
theorem dL_law_896 : decode cL_law 896 = .ok (.iload_n 3, 1) := dk_at bL_law_862 30 rfl
theorem dL_law_897 : decode cL_law 897 = .ok (.iconst 3, 1) := dk_at bL_law_862 31 rfl
theorem dL_law_898 : decode cL_law 898 = .ok (.iadd, 1) := dk_at bL_law_862 32 rfl
theorem dL_law_899 : decode cL_law 899 = .ok (.iaload, 1) := dk_at bL_law_862 33 rfl
theorem dL_law_900 : decode cL_law 900 = .ok (.invokevirtual 90, 3) := dk_at bL_law_862 34 rfl
theorem dL_law_903 : decode cL_law 903 = .ok (.pop, 1) := dk_at bL_law_862 35 rfl
theorem dL_law_904 : decode cL_law 904 = .ok (.aload_n 2, 1) := dk_at bL_law_862 36 rfl
theorem dL_law_905 : decode cL_law 905 = .ok (.aload_n 0, 1) := dk_at bL_law_862 37 rfl
theorem dL_law_906 : decode cL_law 906 = .ok (.iload_n 3, 1) := dk_at bL_law_862 38 rfl
theorem dL_law_907 : decode cL_law 907 = .ok (.iconst 1, 1) := dk_at bL_law_862 39 rfl
theorem bL_law_908 : dk cL_law [(908, .iadd, 1), (909, .iaload, 1), (910, .aload_n 0, 1), (911, .iload_n 3, 1), (912, .iconst 2, 1), (913, .iadd, 1), (914, .iaload, 1), (915, .aload_n 0, 1), (916, .iload_n 3, 1), (917, .iconst 3, 1), (918, .iadd, 1), (919, .iaload, 1), (920, .invokevirtual 93, 3), (923, .pop, 1), (924, .goto 105, 3), (927, .aload_n 1, 1), (928, .aload_n 0, 1), (929, .iload_n 3, 1), (930, .iconst 1, 1), (931, .iadd, 1), (932, .iaload, 1), (933, .aload_n 0, 1), (934, .iload_n 3, 1), (935, .iconst 2, 1), (936, .iadd, 1), (937, .iaload, 1), (938, .aload_n 0, 1), (939, .iload_n 3, 1), (940, .iconst 3, 1), (941, .iadd, 1), (942, .iaload, 1), (943, .invokevirtual 94, 3), (946, .aload_n 2, 1), (947, .aload_n 0, 1), (948, .iload_n 3, 1), (949, .iconst 1, 1), (950, .iadd, 1), (951, .iaload, 1), (952, .aload_n 0, 1), (953, .iload_n 3, 1)] = true := by decide +kernel
theorem dL_law_908 : decode cL_law 908 = .ok (.iadd, 1) := dk_at bL_law_908 0 rfl
theorem dL_law_909 : decode cL_law 909 = .ok (.iaload, 1) := dk_at bL_law_908 1 rfl
theorem dL_law_910 : decode cL_law 910 = .ok (.aload_n 0, 1) := dk_at bL_law_908 2 rfl
theorem dL_law_911 : decode cL_law 911 = .ok (.iload_n 3, 1) := dk_at bL_law_908 3 rfl
theorem dL_law_912 : decode cL_law 912 = .ok (.iconst 2, 1) := dk_at bL_law_908 4 rfl
theorem dL_law_913 : decode cL_law 913 = .ok (.iadd, 1) := dk_at bL_law_908 5 rfl
theorem dL_law_914 : decode cL_law 914 = .ok (.iaload, 1) := dk_at bL_law_908 6 rfl
theorem dL_law_915 : decode cL_law 915 = .ok (.aload_n 0, 1) := dk_at bL_law_908 7 rfl
theorem dL_law_916 : decode cL_law 916 = .ok (.iload_n 3, 1) := dk_at bL_law_908 8 rfl
theorem dL_law_917 : decode cL_law 917 = .ok (.iconst 3, 1) := dk_at bL_law_908 9 rfl
theorem dL_law_918 : decode cL_law 918 = .ok (.iadd, 1) := dk_at bL_law_908 10 rfl
theorem dL_law_919 : decode cL_law 919 = .ok (.iaload, 1) := dk_at bL_law_908 11 rfl
theorem dL_law_920 : decode cL_law 920 = .ok (.invokevirtual 93, 3) := dk_at bL_law_908 12 rfl
theorem dL_law_923 : decode cL_law 923 = .ok (.pop, 1) := dk_at bL_law_908 13 rfl
theorem dL_law_924 : decode cL_law 924 = .ok (.goto 105, 3) := dk_at bL_law_908 14 rfl
theorem dL_law_927 : decode cL_law 927 = .ok (.aload_n 1, 1) := dk_at bL_law_908 15 rfl
theorem dL_law_928 : decode cL_law 928 = .ok (.aload_n 0, 1) := dk_at bL_law_908 16 rfl
theorem dL_law_929 : decode cL_law 929 = .ok (.iload_n 3, 1) := dk_at bL_law_908 17 rfl
theorem dL_law_930 : decode cL_law 930 = .ok (.iconst 1, 1) := dk_at bL_law_908 18 rfl
theorem dL_law_931 : decode cL_law 931 = .ok (.iadd, 1) := dk_at bL_law_908 19 rfl
theorem dL_law_932 : decode cL_law 932 = .ok (.iaload, 1) := dk_at bL_law_908 20 rfl
theorem dL_law_933 : decode cL_law 933 = .ok (.aload_n 0, 1) := dk_at bL_law_908 21 rfl
theorem dL_law_934 : decode cL_law 934 = .ok (.iload_n 3, 1) := dk_at bL_law_908 22 rfl
theorem dL_law_935 : decode cL_law 935 = .ok (.iconst 2, 1) := dk_at bL_law_908 23 rfl
theorem dL_law_936 : decode cL_law 936 = .ok (.iadd, 1) := dk_at bL_law_908 24 rfl
theorem dL_law_937 : decode cL_law 937 = .ok (.iaload, 1) := dk_at bL_law_908 25 rfl
theorem dL_law_938 : decode cL_law 938 = .ok (.aload_n 0, 1) := dk_at bL_law_908 26 rfl
theorem dL_law_939 : decode cL_law 939 = .ok (.iload_n 3, 1) := dk_at bL_law_908 27 rfl
theorem dL_law_940 : decode cL_law 940 = .ok (.iconst 3, 1) := dk_at bL_law_908 28 rfl
theorem dL_law_941 : decode cL_law 941 = .ok (.iadd, 1) := dk_at bL_law_908 29 rfl
theorem dL_law_942 : decode cL_law 942 = .ok (.iaload, 1) := dk_at bL_law_908 30 rfl
theorem dL_law_943 : decode cL_law 943 = .ok (.invokevirtual 94, 3) := dk_at bL_law_908 31 rfl
theorem dL_law_946 : decode cL_law 946 = .ok (.aload_n 2, 1) := dk_at bL_law_908 32 rfl
theorem dL_law_947 : decode cL_law 947 = .ok (.aload_n 0, 1) := dk_at bL_law_908 33 rfl
theorem dL_law_948 : decode cL_law 948 = .ok (.iload_n 3, 1) := dk_at bL_law_908 34 rfl
theorem dL_law_949 : decode cL_law 949 = .ok (.iconst 1, 1) := dk_at bL_law_908 35 rfl
theorem dL_law_950 : decode cL_law 950 = .ok (.iadd, 1) := dk_at bL_law_908 36 rfl
theorem dL_law_951 : decode cL_law 951 = .ok (.iaload, 1) := dk_at bL_law_908 37 rfl
theorem dL_law_952 : decode cL_law 952 = .ok (.aload_n 0, 1) := dk_at bL_law_908 38 rfl
theorem dL_law_953 : decode cL_law 953 = .ok (.iload_n 3, 1) := dk_at bL_law_908 39 rfl
theorem bL_law_954 : dk cL_law [(954, .iconst 2, 1), (955, .iadd, 1), (956, .iaload, 1), (957, .aload_n 0, 1), (958, .iload_n 3, 1), (959, .iconst 3, 1), (960, .iadd, 1), (961, .iaload, 1), (962, .invokevirtual 97, 3), (965, .if_icmp .eq 64, 3), (968, .iconst 0, 1), (969, .ireturn, 1), (970, .aload_n 1, 1), (971, .invokevirtual 98, 3), (974, .pop, 1), (975, .aload_n 2, 1), (976, .invokevirtual 102, 3), (979, .pop, 1), (980, .goto 49, 3), (983, .aload_n 1, 1), (984, .aload_n 0, 1), (985, .iload_n 3, 1), (986, .iconst 1, 1), (987, .iadd, 1), (988, .iaload, 1), (989, .invokevirtual 103, 3), (992, .pop, 1), (993, .aload_n 2, 1), (994, .aload_n 0, 1), (995, .iload_n 3, 1), (996, .iconst 1, 1), (997, .iadd, 1), (998, .iaload, 1)] = true := by decide +kernel
theorem dL_law_954 : decode cL_law 954 = .ok (.iconst 2, 1) := dk_at bL_law_954 0 rfl
theorem dL_law_955 : decode cL_law 955 = .ok (.iadd, 1) := dk_at bL_law_954 1 rfl
theorem dL_law_956 : decode cL_law 956 = .ok (.iaload, 1) := dk_at bL_law_954 2 rfl
theorem dL_law_957 : decode cL_law 957 = .ok (.aload_n 0, 1) := dk_at bL_law_954 3 rfl
theorem dL_law_958 : decode cL_law 958 = .ok (.iload_n 3, 1) := dk_at bL_law_954 4 rfl
theorem dL_law_959 : decode cL_law 959 = .ok (.iconst 3, 1) := dk_at bL_law_954 5 rfl
theorem dL_law_960 : decode cL_law 960 = .ok (.iadd, 1) := dk_at bL_law_954 6 rfl
theorem dL_law_961 : decode cL_law 961 = .ok (.iaload, 1) := dk_at bL_law_954 7 rfl
theorem dL_law_962 : decode cL_law 962 = .ok (.invokevirtual 97, 3) := dk_at bL_law_954 8 rfl
theorem dL_law_965 : decode cL_law 965 = .ok (.if_icmp .eq 64, 3) := dk_at bL_law_954 9 rfl
theorem dL_law_968 : decode cL_law 968 = .ok (.iconst 0, 1) := dk_at bL_law_954 10 rfl
theorem dL_law_969 : decode cL_law 969 = .ok (.ireturn, 1) := dk_at bL_law_954 11 rfl
theorem dL_law_970 : decode cL_law 970 = .ok (.aload_n 1, 1) := dk_at bL_law_954 12 rfl
theorem dL_law_971 : decode cL_law 971 = .ok (.invokevirtual 98, 3) := dk_at bL_law_954 13 rfl
theorem dL_law_974 : decode cL_law 974 = .ok (.pop, 1) := dk_at bL_law_954 14 rfl
theorem dL_law_975 : decode cL_law 975 = .ok (.aload_n 2, 1) := dk_at bL_law_954 15 rfl
theorem dL_law_976 : decode cL_law 976 = .ok (.invokevirtual 102, 3) := dk_at bL_law_954 16 rfl
theorem dL_law_979 : decode cL_law 979 = .ok (.pop, 1) := dk_at bL_law_954 17 rfl
theorem dL_law_980 : decode cL_law 980 = .ok (.goto 49, 3) := dk_at bL_law_954 18 rfl
theorem dL_law_983 : decode cL_law 983 = .ok (.aload_n 1, 1) := dk_at bL_law_954 19 rfl
theorem dL_law_984 : decode cL_law 984 = .ok (.aload_n 0, 1) := dk_at bL_law_954 20 rfl
theorem dL_law_985 : decode cL_law 985 = .ok (.iload_n 3, 1) := dk_at bL_law_954 21 rfl
theorem dL_law_986 : decode cL_law 986 = .ok (.iconst 1, 1) := dk_at bL_law_954 22 rfl
theorem dL_law_987 : decode cL_law 987 = .ok (.iadd, 1) := dk_at bL_law_954 23 rfl
theorem dL_law_988 : decode cL_law 988 = .ok (.iaload, 1) := dk_at bL_law_954 24 rfl
theorem dL_law_989 : decode cL_law 989 = .ok (.invokevirtual 103, 3) := dk_at bL_law_954 25 rfl
theorem dL_law_992 : decode cL_law 992 = .ok (.pop, 1) := dk_at bL_law_954 26 rfl
theorem dL_law_993 : decode cL_law 993 = .ok (.aload_n 2, 1) := dk_at bL_law_954 27 rfl
theorem dL_law_994 : decode cL_law 994 = .ok (.aload_n 0, 1) := dk_at bL_law_954 28 rfl
theorem dL_law_995 : decode cL_law 995 = .ok (.iload_n 3, 1) := dk_at bL_law_954 29 rfl
theorem dL_law_996 : decode cL_law 996 = .ok (.iconst 1, 1) := dk_at bL_law_954 30 rfl
theorem dL_law_997 : decode cL_law 997 = .ok (.iadd, 1) := dk_at bL_law_954 31 rfl
theorem dL_law_998 : decode cL_law 998 = .ok (.iaload, 1) := dk_at bL_law_954 32 rfl
