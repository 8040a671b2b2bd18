theorem bL_law_999 : dk cL_law [(999, .invokevirtual 106, 3), (1002, .pop, 1), (1003, .goto 26, 3), (1006, .aload_n 1, 1), (1007, .aload_n 0, 1), (1008, .iload_n 3, 1), (1009, .iconst 1, 1), (1010, .iadd, 1), (1011, .iaload, 1), (1012, .invokevirtual 107, 3), (1015, .pop, 1), (1016, .aload_n 2, 1), (1017, .aload_n 0, 1), (1018, .iload_n 3, 1), (1019, .iconst 1, 1), (1020, .iadd, 1), (1021, .iaload, 1), (1022, .invokevirtual 110, 3), (1025, .pop, 1), (1026, .goto 3, 3), (1029, .iinc 3 6, 3), (1032, .goto (-1014), 3), (1035, .iconst 1, 1), (1036, .ireturn, 1)] = true := by decide +kernel
theorem dL_law_999 : decode cL_law 999 = .ok (.invokevirtual 106, 3) := dk_at bL_law_999 0 rfl
theorem dL_law_1002 : decode cL_law 1002 = .ok (.pop, 1) := dk_at bL_law_999 1 rfl
theorem dL_law_1003 : decode cL_law 1003 = .ok (.goto 26, 3) := dk_at bL_law_999 2 rfl
theorem dL_law_1006 : decode cL_law 1006 = .ok (.aload_n 1, 1) := dk_at bL_law_999 3 rfl
theorem dL_law_1007 : decode cL_law 1007 = .ok (.aload_n 0, 1) := dk_at bL_law_999 4 rfl
theorem dL_law_1008 : decode cL_law 1008 = .ok (.iload_n 3, 1) := dk_at bL_law_999 5 rfl
theorem dL_law_1009 : decode cL_law 1009 = .ok (.iconst 1, 1) := dk_at bL_law_999 6 rfl
theorem dL_law_1010 : decode cL_law 1010 = .ok (.iadd, 1) := dk_at bL_law_999 7 rfl
theorem dL_law_1011 : decode cL_law 1011 = .ok (.iaload, 1) := dk_at bL_law_999 8 rfl
theorem dL_law_1012 : decode cL_law 1012 = .ok (.invokevirtual 107, 3) := dk_at bL_law_999 9 rfl
theorem dL_law_1015 : decode cL_law 1015 = .ok (.pop, 1) := dk_at bL_law_999 10 rfl
theorem dL_law_1016 : decode cL_law 1016 = .ok (.aload_n 2, 1) := dk_at bL_law_999 11 rfl
theorem dL_law_1017 : decode cL_law 1017 = .ok (.aload_n 0, 1) := dk_at bL_law_999 12 rfl
theorem dL_law_1018 : decode cL_law 1018 = .ok (.iload_n 3, 1) := dk_at bL_law_999 13 rfl
theorem dL_law_1019 : decode cL_law 1019 = .ok (.iconst 1, 1) := dk_at bL_law_999 14 rfl
theorem dL_law_1020 : decode cL_law 1020 = .ok (.iadd, 1) := dk_at bL_law_999 15 rfl
theorem dL_law_1021 : decode cL_law 1021 = .ok (.iaload, 1) := dk_at bL_law_999 16 rfl
theorem dL_law_1022 : decode cL_law 1022 = .ok (.invokevirtual 110, 3) := dk_at bL_law_999 17 rfl
theorem dL_law_1025 : decode cL_law 1025 = .ok (.pop, 1) := dk_at bL_law_999 18 rfl
theorem dL_law_1026 : decode cL_law 1026 = .ok (.goto 3, 3) := dk_at bL_law_999 19 rfl
theorem dL_law_1029 : decode cL_law 1029 = .ok (.iinc 3 6, 3) := dk_at bL_law_999 20 rfl
theorem dL_law_1032 : decode cL_law 1032 = .ok (.goto (-1014), 3) := dk_at bL_law_999 21 rfl
theorem dL_law_1035 : decode cL_law 1035 = .ok (.iconst 1, 1) := dk_at bL_law_999 22 rfl
theorem dL_law_1036 : decode cL_law 1036 = .ok (.ireturn, 1) := dk_at bL_law_999 23 rfl
abbrev vwCl : List vw_C := [(RX0, TX0, 6), (RX1, TX1, 5), (RX2, TX2, 9), (RX3, TX3, 5), (RX4, TX4, 16), (RX5, TX5, 8), (RX6, TX6, 3), (RX7, TX7, 5), (RX8, TX8, 2), (RX9, TX9, 2), (RX10, TX10, 5), (RX11, TX11, 9), (RX12, TX12, 59)]
