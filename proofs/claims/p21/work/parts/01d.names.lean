/-- several decode rows of one method in one check -/
def dk (c : ByteArray) (l : List (Nat × Instr × Nat)) : Bool := l.all (fun x => decide (decode c x.1 = .ok x.2))
theorem dk_at {c : ByteArray} {l : List (Nat × Instr × Nat)} (h : dk c l = true) (k : Nat) {a : Nat} {b : Instr × Nat} (e : l[k]? = some (a, b)) : decode c a = .ok b := by
  unfold dk at h
  have h2 := List.all_eq_true.mp h (a, b) (List.mem_of_getElem? e)
  simp only [decide_eq_true_eq] at h2
  exact h2
theorem inlX0 : ∀ w ∈ wsX00, w ∈ wsL_law := fun _ h => List.mem_append_left _ (List.mem_append_left _ (List.mem_append_left _ (List.mem_append_left _ (List.mem_append_left _ (List.mem_append_left _ (List.mem_append_left _ (List.mem_append_left _ (List.mem_append_right _ h))))))))
theorem inX0 : ∀ w ∈ wsX00, w ∈ lw_tbl := fun w h => wsL_law_in w (inlX0 w h)
theorem inlX1 : ∀ w ∈ wsX10, w ∈ wsL_law := fun _ h => List.mem_append_left _ (List.mem_append_left _ (List.mem_append_left _ (List.mem_append_left _ (List.mem_append_right _ h))))
theorem inX1 : ∀ w ∈ wsX10, w ∈ lw_tbl := fun w h => wsL_law_in w (inlX1 w h)
theorem inlX2 : ∀ w ∈ wsX20, w ∈ wsL_law := fun _ h => List.mem_append_left _ (List.mem_append_left _ (List.mem_append_left _ (List.mem_append_left _ (List.mem_append_left _ (List.mem_append_left _ (List.mem_append_left _ (List.mem_append_right _ h)))))))
theorem inX2 : ∀ w ∈ wsX20, w ∈ lw_tbl := fun w h => wsL_law_in w (inlX2 w h)
theorem inlX3 : ∀ w ∈ wsX30, w ∈ wsL_law := fun _ h => List.mem_append_left _ (List.mem_append_right _ h)
theorem inX3 : ∀ w ∈ wsX30, w ∈ lw_tbl := fun w h => wsL_law_in w (inlX3 w h)
theorem inlX4 : ∀ w ∈ wsX40, w ∈ wsL_law := fun _ h => List.mem_append_left _ (List.mem_append_left _ (List.mem_append_right _ h))
theorem inX4 : ∀ w ∈ wsX40, w ∈ lw_tbl := fun w h => wsL_law_in w (inlX4 w h)
theorem inlX5 : ∀ w ∈ wsX50, w ∈ wsL_law := fun _ h => List.mem_append_left _ (List.mem_append_left _ (List.mem_append_left _ (List.mem_append_left _ (List.mem_append_left _ (List.mem_append_left _ (List.mem_append_right _ h))))))
theorem inX5 : ∀ w ∈ wsX50, w ∈ lw_tbl := fun w h => wsL_law_in w (inlX5 w h)
theorem inlX6 : ∀ w ∈ wsX60, w ∈ wsL_law := fun _ h => List.mem_append_left _ (List.mem_append_left _ (List.mem_append_left _ (List.mem_append_left _ (List.mem_append_left _ (List.mem_append_left _ (List.mem_append_left _ (List.mem_append_left _ (List.mem_append_left _ (List.mem_append_left _ (List.mem_append_right _ h))))))))))
theorem inX6 : ∀ w ∈ wsX60, w ∈ lw_tbl := fun w h => wsL_law_in w (inlX6 w h)
theorem inlX7 : ∀ w ∈ wsX70, w ∈ wsL_law := fun _ h => List.mem_append_left _ (List.mem_append_left _ (List.mem_append_left _ (List.mem_append_left _ (List.mem_append_left _ (List.mem_append_right _ h)))))
theorem inX7 : ∀ w ∈ wsX70, w ∈ lw_tbl := fun w h => wsL_law_in w (inlX7 w h)
theorem inlX8 : ∀ w ∈ wsX80, w ∈ wsL_law := fun _ h => List.mem_append_left _ (List.mem_append_left _ (List.mem_append_left _ (List.mem_append_left _ (List.mem_append_left _ (List.mem_append_left _ (List.mem_append_left _ (List.mem_append_left _ (List.mem_append_left _ (List.mem_append_right _ h)))))))))
theorem inX8 : ∀ w ∈ wsX80, w ∈ lw_tbl := fun w h => wsL_law_in w (inlX8 w h)
theorem inlX9 : ∀ w ∈ wsX90, w ∈ wsL_law := fun _ h => List.mem_append_left _ (List.mem_append_left _ (List.mem_append_left _ (List.mem_append_left _ (List.mem_append_left _ (List.mem_append_left _ (List.mem_append_left _ (List.mem_append_left _ (List.mem_append_left _ (List.mem_append_left _ (List.mem_append_left _ (List.mem_append_right _ h)))))))))))
theorem inX9 : ∀ w ∈ wsX90, w ∈ lw_tbl := fun w h => wsL_law_in w (inlX9 w h)
theorem inlX10 : ∀ w ∈ wsX100, w ∈ wsL_law := fun _ h => List.mem_append_left _ (List.mem_append_left _ (List.mem_append_left _ (List.mem_append_right _ h)))
theorem inX10 : ∀ w ∈ wsX100, w ∈ lw_tbl := fun w h => wsL_law_in w (inlX10 w h)
theorem inlX11 : ∀ w ∈ wsX110, w ∈ wsL_law := fun _ h => List.mem_append_left _ (List.mem_append_left _ (List.mem_append_left _ (List.mem_append_left _ (List.mem_append_left _ (List.mem_append_left _ (List.mem_append_left _ (List.mem_append_left _ (List.mem_append_left _ (List.mem_append_left _ (List.mem_append_left _ (List.mem_append_left _ (List.mem_append_left _ (List.mem_append_right _ h)))))))))))))
theorem inX11 : ∀ w ∈ wsX110, w ∈ lw_tbl := fun w h => wsL_law_in w (inlX11 w h)
theorem inlX12 : ∀ w ∈ wsX120, w ∈ wsL_law := fun _ h => List.mem_append_left _ (List.mem_append_left _ (List.mem_append_left _ (List.mem_append_left _ (List.mem_append_left _ (List.mem_append_left _ (List.mem_append_left _ (List.mem_append_left _ (List.mem_append_left _ (List.mem_append_left _ (List.mem_append_left _ (List.mem_append_left _ (List.mem_append_right _ h))))))))))))
theorem inX12 : ∀ w ∈ wsX120, w ∈ lw_tbl := fun w h => wsL_law_in w (inlX12 w h)
theorem inJ6 : ∀ w ∈ wsJ60, w ∈ lw_tbl := by decide +kernel
theorem inJ9 : ∀ w ∈ wsJ90, w ∈ lw_tbl := by decide +kernel
theorem inJ0 : ∀ w ∈ wsJ00, w ∈ lw_tbl := by decide +kernel
theorem inJ1 : ∀ w ∈ wsJ10, w ∈ lw_tbl := by decide +kernel
theorem inJ2 : ∀ w ∈ wsJ20, w ∈ lw_tbl := by decide +kernel
theorem inJ7 : ∀ w ∈ wsJ70, w ∈ lw_tbl := by decide +kernel
theorem inJ3 : ∀ w ∈ wsJ30, w ∈ lw_tbl := by decide +kernel
set_option maxRecDepth 20000 in
theorem ggX0_init_X7_init : GoodIn wsX0_init wsX7_init := goodIn_r _ [21, 22, 2, 3, 4, 23, 24, 25, 26, 27, 28, 62, 63, 64, 65, 66] rfl (by decide +kernel)
set_option maxRecDepth 20000 in
theorem gX0_init_X7_init_n24 : GoodIn wsX0_init (wsX7_init) := ggX0_init_X7_init
set_option maxRecDepth 20000 in
theorem ggX0_init_X1_init : GoodIn wsX0_init wsX1_init := goodIn_r _ [30, 31, 2, 3, 4, 32, 33, 34, 35, 36, 67, 68, 69, 70, 71] rfl (by decide +kernel)
set_option maxRecDepth 20000 in
theorem gX0_init_X1_init_n31 : GoodIn wsX0_init (wsX1_init) := ggX0_init_X1_init
set_option maxRecDepth 20000 in
theorem ggX0_init_X4_init : GoodIn wsX0_init wsX4_init := goodIn_r _ [38, 39, 2, 3, 4, 40, 41, 42, 43, 44, 45, 46, 47, 48, 49, 50, 51, 52, 53, 54, 55, 72, 73, 74, 75, 76, 77, 78, 79, 80, 81, 82, 83, 84, 85, 86, 87] rfl (by decide +kernel)
set_option maxRecDepth 20000 in
theorem gX0_init_X4_init_n38 : GoodIn wsX0_init (wsX4_init) := ggX0_init_X4_init
theorem bX0_init_0 : dk cX0_init [(0, .aload_n 0, 1), (1, .invokespecial 3, 3), (4, .aload_n 0, 1), (5, .bipush 25, 2), (7, .newarray .int, 2), (9, .putfield 9, 3), (12, .aload_n 0, 1), (13, .iconst 4, 1), (14, .newarray .int, 2), (16, .dup, 1), (17, .iconst 0, 1), (18, .sipush 10000, 3), (21, .iastore, 1), (22, .dup, 1), (23, .iconst 1, 1), (24, .sipush 10000, 3), (27, .iastore, 1), (28, .dup, 1), (29, .iconst 2, 1), (30, .sipush 10000, 3), (33, .iastore, 1), (34, .dup, 1), (35, .iconst 3, 1), (36, .sipush 10000, 3), (39, .iastore, 1), (40, .putfield 15, 3), (43, .aload_n 0, 1), (44, .iconst 0, 1), (45, .putfield 18, 3), (48, .aload_n 0, 1), (49, .new 22, 3), (52, .dup, 1), (53, .invokespecial 24, 3), (56, .putfield 25, 3), (59, .aload_n 0, 1), (60, .new 29, 3), (63, .dup, 1), (64, .invokespecial 31, 3), (67, .putfield 32, 3), (70, .aload_n 0, 1)] = true := by decide +kernel
theorem dX0_init_0 : decode cX0_init 0 = .ok (.aload_n 0, 1) := dk_at bX0_init_0 0 rfl
theorem dX0_init_1 : decode cX0_init 1 = .ok (.invokespecial 3, 3) := dk_at bX0_init_0 1 rfl
theorem dX0_init_4 : decode cX0_init 4 = .ok (.aload_n 0, 1) := dk_at bX0_init_0 2 rfl
theorem dX0_init_5 : decode cX0_init 5 = .ok (.bipush 25, 2) := dk_at bX0_init_0 3 rfl
theorem dX0_init_7 : decode cX0_init 7 = .ok (.newarray .int, 2) := dk_at bX0_init_0 4 rfl
theorem dX0_init_9 : decode cX0_init 9 = .ok (.putfield 9, 3) := dk_at bX0_init_0 5 rfl
theorem dX0_init_12 : decode cX0_init 12 = .ok (.aload_n 0, 1) := dk_at bX0_init_0 6 rfl
theorem dX0_init_13 : decode cX0_init 13 = .ok (.iconst 4, 1) := dk_at bX0_init_0 7 rfl
theorem dX0_init_14 : decode cX0_init 14 = .ok (.newarray .int, 2) := dk_at bX0_init_0 8 rfl
theorem dX0_init_16 : decode cX0_init 16 = .ok (.dup, 1) := dk_at bX0_init_0 9 rfl
theorem dX0_init_17 : decode cX0_init 17 = .ok (.iconst 0, 1) := dk_at bX0_init_0 10 rfl
theorem dX0_init_18 : decode cX0_init 18 = .ok (.sipush 10000, 3) := dk_at bX0_init_0 11 rfl
theorem dX0_init_21 : decode cX0_init 21 = .ok (.iastore, 1) := dk_at bX0_init_0 12 rfl
theorem dX0_init_22 : decode cX0_init 22 = .ok (.dup, 1) := dk_at bX0_init_0 13 rfl
theorem dX0_init_23 : decode cX0_init 23 = .ok (.iconst 1, 1) := dk_at bX0_init_0 14 rfl
theorem dX0_init_24 : decode cX0_init 24 = .ok (.sipush 10000, 3) := dk_at bX0_init_0 15 rfl
theorem dX0_init_27 : decode cX0_init 27 = .ok (.iastore, 1) := dk_at bX0_init_0 16 rfl
theorem dX0_init_28 : decode cX0_init 28 = .ok (.dup, 1) := dk_at bX0_init_0 17 rfl
theorem dX0_init_29 : decode cX0_init 29 = .ok (.iconst 2, 1) := dk_at bX0_init_0 18 rfl
theorem dX0_init_30 : decode cX0_init 30 = .ok (.sipush 10000, 3) := dk_at bX0_init_0 19 rfl
theorem dX0_init_33 : decode cX0_init 33 = .ok (.iastore, 1) := dk_at bX0_init_0 20 rfl
theorem dX0_init_34 : decode cX0_init 34 = .ok (.dup, 1) := dk_at bX0_init_0 21 rfl
theorem dX0_init_35 : decode cX0_init 35 = .ok (.iconst 3, 1) := dk_at bX0_init_0 22 rfl
theorem dX0_init_36 : decode cX0_init 36 = .ok (.sipush 10000, 3) := dk_at bX0_init_0 23 rfl
theorem dX0_init_39 : decode cX0_init 39 = .ok (.iastore, 1) := dk_at bX0_init_0 24 rfl
theorem dX0_init_40 : decode cX0_init 40 = .ok (.putfield 15, 3) := dk_at bX0_init_0 25 rfl
theorem dX0_init_43 : decode cX0_init 43 = .ok (.aload_n 0, 1) := dk_at bX0_init_0 26 rfl
theorem dX0_init_44 : decode cX0_init 44 = .ok (.iconst 0, 1) := dk_at bX0_init_0 27 rfl
theorem dX0_init_45 : decode cX0_init 45 = .ok (.putfield 18, 3) := dk_at bX0_init_0 28 rfl
theorem dX0_init_48 : decode cX0_init 48 = .ok (.aload_n 0, 1) := dk_at bX0_init_0 29 rfl
theorem dX0_init_49 : decode cX0_init 49 = .ok (.new 22, 3) := dk_at bX0_init_0 30 rfl
theorem dX0_init_52 : decode cX0_init 52 = .ok (.dup, 1) := dk_at bX0_init_0 31 rfl
theorem dX0_init_53 : decode cX0_init 53 = .ok (.invokespecial 24, 3) := dk_at bX0_init_0 32 rfl
theorem dX0_init_56 : decode cX0_init 56 = .ok (.putfield 25, 3) := dk_at bX0_init_0 33 rfl
theorem dX0_init_59 : decode cX0_init 59 = .ok (.aload_n 0, 1) := dk_at bX0_init_0 34 rfl
theorem dX0_init_60 : decode cX0_init 60 = .ok (.new 29, 3) := dk_at bX0_init_0 35 rfl
theorem dX0_init_63 : decode cX0_init 63 = .ok (.dup, 1) := dk_at bX0_init_0 36 rfl
theorem dX0_init_64 : decode cX0_init 64 = .ok (.invokespecial 31, 3) := dk_at bX0_init_0 37 rfl
theorem dX0_init_67 : decode cX0_init 67 = .ok (.putfield 32, 3) := dk_at bX0_init_0 38 rfl
theorem dX0_init_70 : decode cX0_init 70 = .ok (.aload_n 0, 1) := dk_at bX0_init_0 39 rfl
theorem bX0_init_71 : dk cX0_init [(71, .new 36, 3), (74, .dup, 1), (75, .invokespecial 38, 3), (78, .putfield 39, 3), (81, .return_, 1)] = true := by decide +kernel
theorem dX0_init_71 : decode cX0_init 71 = .ok (.new 36, 3) := dk_at bX0_init_71 0 rfl
theorem dX0_init_74 : decode cX0_init 74 = .ok (.dup, 1) := dk_at bX0_init_71 1 rfl
theorem dX0_init_75 : decode cX0_init 75 = .ok (.invokespecial 38, 3) := dk_at bX0_init_71 2 rfl
theorem dX0_init_78 : decode cX0_init 78 = .ok (.putfield 39, 3) := dk_at bX0_init_71 3 rfl
theorem dX0_init_81 : decode cX0_init 81 = .ok (.return_, 1) := dk_at bX0_init_71 4 rfl
theorem bX0_broken_0 : dk cX0_broken [(0, .iconst 0, 1), (1, .istore_n 1, 1), (2, .iconst 0, 1), (3, .istore_n 2, 1), (4, .iload_n 2, 1), (5, .iconst 4, 1), (6, .if_icmp .ge 26, 3), (9, .iload_n 1, 1), (10, .aload_n 0, 1), (11, .getfield 15, 3), (14, .iload_n 2, 1), (15, .iaload, 1), (16, .ifCond .ge 7, 3), (19, .iconst 1, 1), (20, .goto 4, 3), (23, .iconst 0, 1), (24, .iadd, 1), (25, .istore_n 1, 1), (26, .iinc 2 1, 3), (29, .goto (-25), 3), (32, .iload_n 1, 1), (33, .ireturn, 1)] = true := by decide +kernel
theorem dX0_broken_0 : decode cX0_broken 0 = .ok (.iconst 0, 1) := dk_at bX0_broken_0 0 rfl
theorem dX0_broken_1 : decode cX0_broken 1 = .ok (.istore_n 1, 1) := dk_at bX0_broken_0 1 rfl
theorem dX0_broken_2 : decode cX0_broken 2 = .ok (.iconst 0, 1) := dk_at bX0_broken_0 2 rfl
theorem dX0_broken_3 : decode cX0_broken 3 = .ok (.istore_n 2, 1) := dk_at bX0_broken_0 3 rfl
theorem dX0_broken_4 : decode cX0_broken 4 = .ok (.iload_n 2, 1) := dk_at bX0_broken_0 4 rfl
theorem dX0_broken_5 : decode cX0_broken 5 = .ok (.iconst 4, 1) := dk_at bX0_broken_0 5 rfl
theorem dX0_broken_6 : decode cX0_broken 6 = .ok (.if_icmp .ge 26, 3) := dk_at bX0_broken_0 6 rfl
theorem dX0_broken_9 : decode cX0_broken 9 = .ok (.iload_n 1, 1) := dk_at bX0_broken_0 7 rfl
theorem dX0_broken_10 : decode cX0_broken 10 = .ok (.aload_n 0, 1) := dk_at bX0_broken_0 8 rfl
theorem dX0_broken_11 : decode cX0_broken 11 = .ok (.getfield 15, 3) := dk_at bX0_broken_0 9 rfl
theorem dX0_broken_14 : decode cX0_broken 14 = .ok (.iload_n 2, 1) := dk_at bX0_broken_0 10 rfl
theorem dX0_broken_15 : decode cX0_broken 15 = .ok (.iaload, 1) := dk_at bX0_broken_0 11 rfl
theorem dX0_broken_16 : decode cX0_broken 16 = .ok (.ifCond .ge 7, 3) := dk_at bX0_broken_0 12 rfl
theorem dX0_broken_19 : decode cX0_broken 19 = .ok (.iconst 1, 1) := dk_at bX0_broken_0 13 rfl
theorem dX0_broken_20 : decode cX0_broken 20 = .ok (.goto 4, 3) := dk_at bX0_broken_0 14 rfl
theorem dX0_broken_23 : decode cX0_broken 23 = .ok (.iconst 0, 1) := dk_at bX0_broken_0 15 rfl
theorem dX0_broken_24 : decode cX0_broken 24 = .ok (.iadd, 1) := dk_at bX0_broken_0 16 rfl
theorem dX0_broken_25 : decode cX0_broken 25 = .ok (.istore_n 1, 1) := dk_at bX0_broken_0 17 rfl
theorem dX0_broken_26 : decode cX0_broken 26 = .ok (.iinc 2 1, 3) := dk_at bX0_broken_0 18 rfl
theorem dX0_broken_29 : decode cX0_broken 29 = .ok (.goto (-25), 3) := dk_at bX0_broken_0 19 rfl
theorem dX0_broken_32 : decode cX0_broken 32 = .ok (.iload_n 1, 1) := dk_at bX0_broken_0 20 rfl
theorem dX0_broken_33 : decode cX0_broken 33 = .ok (.ireturn, 1) := dk_at bX0_broken_0 21 rfl
theorem bX0_wear_0 : dk cX0_wear [(0, .iconst 0, 1), (1, .istore_n 1, 1), (2, .iload_n 1, 1), (3, .iconst 4, 1), (4, .if_icmp .ge 27, 3), (7, .aload_n 0, 1), (8, .getfield 15, 3), (11, .iload_n 1, 1), (12, .aload_n 0, 1), (13, .getfield 15, 3), (16, .iload_n 1, 1), (17, .iaload, 1), (18, .iconst 1, 1), (19, .isub, 1), (20, .iconst (-1), 1), (21, .invokestatic 43, 3), (24, .iastore, 1), (25, .iinc 1 1, 3), (28, .goto (-26), 3), (31, .return_, 1)] = true := by decide +kernel
theorem dX0_wear_0 : decode cX0_wear 0 = .ok (.iconst 0, 1) := dk_at bX0_wear_0 0 rfl
theorem dX0_wear_1 : decode cX0_wear 1 = .ok (.istore_n 1, 1) := dk_at bX0_wear_0 1 rfl
theorem dX0_wear_2 : decode cX0_wear 2 = .ok (.iload_n 1, 1) := dk_at bX0_wear_0 2 rfl
theorem dX0_wear_3 : decode cX0_wear 3 = .ok (.iconst 4, 1) := dk_at bX0_wear_0 3 rfl
theorem dX0_wear_4 : decode cX0_wear 4 = .ok (.if_icmp .ge 27, 3) := dk_at bX0_wear_0 4 rfl
theorem dX0_wear_7 : decode cX0_wear 7 = .ok (.aload_n 0, 1) := dk_at bX0_wear_0 5 rfl
theorem dX0_wear_8 : decode cX0_wear 8 = .ok (.getfield 15, 3) := dk_at bX0_wear_0 6 rfl
theorem dX0_wear_11 : decode cX0_wear 11 = .ok (.iload_n 1, 1) := dk_at bX0_wear_0 7 rfl
theorem dX0_wear_12 : decode cX0_wear 12 = .ok (.aload_n 0, 1) := dk_at bX0_wear_0 8 rfl
theorem dX0_wear_13 : decode cX0_wear 13 = .ok (.getfield 15, 3) := dk_at bX0_wear_0 9 rfl
theorem dX0_wear_16 : decode cX0_wear 16 = .ok (.iload_n 1, 1) := dk_at bX0_wear_0 10 rfl
theorem dX0_wear_17 : decode cX0_wear 17 = .ok (.iaload, 1) := dk_at bX0_wear_0 11 rfl
theorem dX0_wear_18 : decode cX0_wear 18 = .ok (.iconst 1, 1) := dk_at bX0_wear_0 12 rfl
theorem dX0_wear_19 : decode cX0_wear 19 = .ok (.isub, 1) := dk_at bX0_wear_0 13 rfl
theorem dX0_wear_20 : decode cX0_wear 20 = .ok (.iconst (-1), 1) := dk_at bX0_wear_0 14 rfl
theorem dX0_wear_21 : decode cX0_wear 21 = .ok (.invokestatic 43, 3) := dk_at bX0_wear_0 15 rfl
theorem dX0_wear_24 : decode cX0_wear 24 = .ok (.iastore, 1) := dk_at bX0_wear_0 16 rfl
theorem dX0_wear_25 : decode cX0_wear 25 = .ok (.iinc 1 1, 3) := dk_at bX0_wear_0 17 rfl
theorem dX0_wear_28 : decode cX0_wear 28 = .ok (.goto (-26), 3) := dk_at bX0_wear_0 18 rfl
theorem dX0_wear_31 : decode cX0_wear 31 = .ok (.return_, 1) := dk_at bX0_wear_0 19 rfl
theorem bX0_drink_0 : dk cX0_drink [(0, .aload_n 0, 1), (1, .getfield 18, 3), (4, .iload_n 1, 1), (5, .if_icmp .lt 7, 3), (8, .iconst 1, 1), (9, .goto 4, 3), (12, .iconst 0, 1), (13, .istore_n 2, 1), (14, .aload_n 0, 1), (15, .aload_n 0, 1), (16, .getfield 18, 3), (19, .iload_n 1, 1), (20, .isub, 1), (21, .iconst 0, 1), (22, .invokestatic 43, 3), (25, .putfield 18, 3), (28, .iload_n 2, 1), (29, .ireturn, 1)] = true := by decide +kernel
theorem dX0_drink_0 : decode cX0_drink 0 = .ok (.aload_n 0, 1) := dk_at bX0_drink_0 0 rfl
theorem dX0_drink_1 : decode cX0_drink 1 = .ok (.getfield 18, 3) := dk_at bX0_drink_0 1 rfl
theorem dX0_drink_4 : decode cX0_drink 4 = .ok (.iload_n 1, 1) := dk_at bX0_drink_0 2 rfl
theorem dX0_drink_5 : decode cX0_drink 5 = .ok (.if_icmp .lt 7, 3) := dk_at bX0_drink_0 3 rfl
theorem dX0_drink_8 : decode cX0_drink 8 = .ok (.iconst 1, 1) := dk_at bX0_drink_0 4 rfl
theorem dX0_drink_9 : decode cX0_drink 9 = .ok (.goto 4, 3) := dk_at bX0_drink_0 5 rfl
theorem dX0_drink_12 : decode cX0_drink 12 = .ok (.iconst 0, 1) := dk_at bX0_drink_0 6 rfl
theorem dX0_drink_13 : decode cX0_drink 13 = .ok (.istore_n 2, 1) := dk_at bX0_drink_0 7 rfl
theorem dX0_drink_14 : decode cX0_drink 14 = .ok (.aload_n 0, 1) := dk_at bX0_drink_0 8 rfl
theorem dX0_drink_15 : decode cX0_drink 15 = .ok (.aload_n 0, 1) := dk_at bX0_drink_0 9 rfl
theorem dX0_drink_16 : decode cX0_drink 16 = .ok (.getfield 18, 3) := dk_at bX0_drink_0 10 rfl
theorem dX0_drink_19 : decode cX0_drink 19 = .ok (.iload_n 1, 1) := dk_at bX0_drink_0 11 rfl
theorem dX0_drink_20 : decode cX0_drink 20 = .ok (.isub, 1) := dk_at bX0_drink_0 12 rfl
theorem dX0_drink_21 : decode cX0_drink 21 = .ok (.iconst 0, 1) := dk_at bX0_drink_0 13 rfl
theorem dX0_drink_22 : decode cX0_drink 22 = .ok (.invokestatic 43, 3) := dk_at bX0_drink_0 14 rfl
theorem dX0_drink_25 : decode cX0_drink 25 = .ok (.putfield 18, 3) := dk_at bX0_drink_0 15 rfl
theorem dX0_drink_28 : decode cX0_drink 28 = .ok (.iload_n 2, 1) := dk_at bX0_drink_0 16 rfl
theorem dX0_drink_29 : decode cX0_drink 29 = .ok (.ireturn, 1) := dk_at bX0_drink_0 17 rfl
set_option maxRecDepth 20000 in
theorem ggX0_speedAt_X11_below : GoodIn wsX0_speedAt wsX11_below := goodIn_r _ [4] rfl (by decide +kernel)
set_option maxRecDepth 20000 in
theorem gX0_speedAt_X11_below_n49 : GoodIn wsX0_speedAt (wsX11_below) := ggX0_speedAt_X11_below
theorem bX0_speedAt_0 : dk cX0_speedAt [(0, .iload_n 1, 1), (1, .iconst 5, 1), (2, .imul, 1), (3, .iload_n 2, 1), (4, .iconst 2, 1), (5, .idiv, 1), (6, .iadd, 1), (7, .istore_n 3, 1), (8, .iload_n 3, 1), (9, .bipush 25, 2), (11, .invokestatic 49, 3), (14, .ifCond .eq 12, 3), (17, .aload_n 0, 1), (18, .getfield 9, 3), (21, .iload_n 3, 1), (22, .iaload, 1), (23, .goto 4, 3), (26, .iconst 0, 1), (27, .ireturn, 1)] = true := by decide +kernel
theorem dX0_speedAt_0 : decode cX0_speedAt 0 = .ok (.iload_n 1, 1) := dk_at bX0_speedAt_0 0 rfl
theorem dX0_speedAt_1 : decode cX0_speedAt 1 = .ok (.iconst 5, 1) := dk_at bX0_speedAt_0 1 rfl
theorem dX0_speedAt_2 : decode cX0_speedAt 2 = .ok (.imul, 1) := dk_at bX0_speedAt_0 2 rfl
theorem dX0_speedAt_3 : decode cX0_speedAt 3 = .ok (.iload_n 2, 1) := dk_at bX0_speedAt_0 3 rfl
theorem dX0_speedAt_4 : decode cX0_speedAt 4 = .ok (.iconst 2, 1) := dk_at bX0_speedAt_0 4 rfl
theorem dX0_speedAt_5 : decode cX0_speedAt 5 = .ok (.idiv, 1) := dk_at bX0_speedAt_0 5 rfl
theorem dX0_speedAt_6 : decode cX0_speedAt 6 = .ok (.iadd, 1) := dk_at bX0_speedAt_0 6 rfl
theorem dX0_speedAt_7 : decode cX0_speedAt 7 = .ok (.istore_n 3, 1) := dk_at bX0_speedAt_0 7 rfl
theorem dX0_speedAt_8 : decode cX0_speedAt 8 = .ok (.iload_n 3, 1) := dk_at bX0_speedAt_0 8 rfl
theorem dX0_speedAt_9 : decode cX0_speedAt 9 = .ok (.bipush 25, 2) := dk_at bX0_speedAt_0 9 rfl
theorem dX0_speedAt_11 : decode cX0_speedAt 11 = .ok (.invokestatic 49, 3) := dk_at bX0_speedAt_0 10 rfl
theorem dX0_speedAt_14 : decode cX0_speedAt 14 = .ok (.ifCond .eq 12, 3) := dk_at bX0_speedAt_0 11 rfl
theorem dX0_speedAt_17 : decode cX0_speedAt 17 = .ok (.aload_n 0, 1) := dk_at bX0_speedAt_0 12 rfl
theorem dX0_speedAt_18 : decode cX0_speedAt 18 = .ok (.getfield 9, 3) := dk_at bX0_speedAt_0 13 rfl
theorem dX0_speedAt_21 : decode cX0_speedAt 21 = .ok (.iload_n 3, 1) := dk_at bX0_speedAt_0 14 rfl
theorem dX0_speedAt_22 : decode cX0_speedAt 22 = .ok (.iaload, 1) := dk_at bX0_speedAt_0 15 rfl
theorem dX0_speedAt_23 : decode cX0_speedAt 23 = .ok (.goto 4, 3) := dk_at bX0_speedAt_0 16 rfl
theorem dX0_speedAt_26 : decode cX0_speedAt 26 = .ok (.iconst 0, 1) := dk_at bX0_speedAt_0 17 rfl
theorem dX0_speedAt_27 : decode cX0_speedAt 27 = .ok (.ireturn, 1) := dk_at bX0_speedAt_0 18 rfl
theorem bX1_init_0 : dk cX1_init [(0, .aload_n 0, 1), (1, .invokespecial 3, 3), (4, .aload_n 0, 1), (5, .bipush 72, 2), (7, .newarray .int, 2), (9, .putfield 9, 3), (12, .aload_n 0, 1), (13, .iconst 0, 1), (14, .putfield 15, 3), (17, .aload_n 0, 1), (18, .iconst 0, 1), (19, .putfield 19, 3), (22, .aload_n 0, 1), (23, .bipush 9, 2), (25, .putfield 22, 3), (28, .aload_n 0, 1), (29, .iconst 0, 1), (30, .putfield 25, 3), (33, .return_, 1)] = true := by decide +kernel
theorem dX1_init_0 : decode cX1_init 0 = .ok (.aload_n 0, 1) := dk_at bX1_init_0 0 rfl
theorem dX1_init_1 : decode cX1_init 1 = .ok (.invokespecial 3, 3) := dk_at bX1_init_0 1 rfl
theorem dX1_init_4 : decode cX1_init 4 = .ok (.aload_n 0, 1) := dk_at bX1_init_0 2 rfl
theorem dX1_init_5 : decode cX1_init 5 = .ok (.bipush 72, 2) := dk_at bX1_init_0 3 rfl
theorem dX1_init_7 : decode cX1_init 7 = .ok (.newarray .int, 2) := dk_at bX1_init_0 4 rfl
theorem dX1_init_9 : decode cX1_init 9 = .ok (.putfield 9, 3) := dk_at bX1_init_0 5 rfl
theorem dX1_init_12 : decode cX1_init 12 = .ok (.aload_n 0, 1) := dk_at bX1_init_0 6 rfl
theorem dX1_init_13 : decode cX1_init 13 = .ok (.iconst 0, 1) := dk_at bX1_init_0 7 rfl
theorem dX1_init_14 : decode cX1_init 14 = .ok (.putfield 15, 3) := dk_at bX1_init_0 8 rfl
theorem dX1_init_17 : decode cX1_init 17 = .ok (.aload_n 0, 1) := dk_at bX1_init_0 9 rfl
theorem dX1_init_18 : decode cX1_init 18 = .ok (.iconst 0, 1) := dk_at bX1_init_0 10 rfl
theorem dX1_init_19 : decode cX1_init 19 = .ok (.putfield 19, 3) := dk_at bX1_init_0 11 rfl
theorem dX1_init_22 : decode cX1_init 22 = .ok (.aload_n 0, 1) := dk_at bX1_init_0 12 rfl
theorem dX1_init_23 : decode cX1_init 23 = .ok (.bipush 9, 2) := dk_at bX1_init_0 13 rfl
theorem dX1_init_25 : decode cX1_init 25 = .ok (.putfield 22, 3) := dk_at bX1_init_0 14 rfl
theorem dX1_init_28 : decode cX1_init 28 = .ok (.aload_n 0, 1) := dk_at bX1_init_0 15 rfl
theorem dX1_init_29 : decode cX1_init 29 = .ok (.iconst 0, 1) := dk_at bX1_init_0 16 rfl
theorem dX1_init_30 : decode cX1_init 30 = .ok (.putfield 25, 3) := dk_at bX1_init_0 17 rfl
theorem dX1_init_33 : decode cX1_init 33 = .ok (.return_, 1) := dk_at bX1_init_0 18 rfl
theorem bX1_clear_0 : dk cX1_clear [(0, .aload_n 0, 1), (1, .iconst 0, 1), (2, .putfield 15, 3), (5, .aload_n 0, 1), (6, .iconst (-1), 1), (7, .putfield 19, 3), (10, .aload_n 0, 1), (11, .iconst (-1), 1), (12, .putfield 22, 3), (15, .aload_n 0, 1), (16, .iconst 0, 1), (17, .putfield 25, 3), (20, .return_, 1)] = true := by decide +kernel
theorem dX1_clear_0 : decode cX1_clear 0 = .ok (.aload_n 0, 1) := dk_at bX1_clear_0 0 rfl
theorem dX1_clear_1 : decode cX1_clear 1 = .ok (.iconst 0, 1) := dk_at bX1_clear_0 1 rfl
theorem dX1_clear_2 : decode cX1_clear 2 = .ok (.putfield 15, 3) := dk_at bX1_clear_0 2 rfl
theorem dX1_clear_5 : decode cX1_clear 5 = .ok (.aload_n 0, 1) := dk_at bX1_clear_0 3 rfl
theorem dX1_clear_6 : decode cX1_clear 6 = .ok (.iconst (-1), 1) := dk_at bX1_clear_0 4 rfl
theorem dX1_clear_7 : decode cX1_clear 7 = .ok (.putfield 19, 3) := dk_at bX1_clear_0 5 rfl
theorem dX1_clear_10 : decode cX1_clear 10 = .ok (.aload_n 0, 1) := dk_at bX1_clear_0 6 rfl
theorem dX1_clear_11 : decode cX1_clear 11 = .ok (.iconst (-1), 1) := dk_at bX1_clear_0 7 rfl
theorem dX1_clear_12 : decode cX1_clear 12 = .ok (.putfield 22, 3) := dk_at bX1_clear_0 8 rfl
theorem dX1_clear_15 : decode cX1_clear 15 = .ok (.aload_n 0, 1) := dk_at bX1_clear_0 9 rfl
theorem dX1_clear_16 : decode cX1_clear 16 = .ok (.iconst 0, 1) := dk_at bX1_clear_0 10 rfl
theorem dX1_clear_17 : decode cX1_clear 17 = .ok (.putfield 25, 3) := dk_at bX1_clear_0 11 rfl
theorem dX1_clear_20 : decode cX1_clear 20 = .ok (.return_, 1) := dk_at bX1_clear_0 12 rfl
theorem bX1_fillUntold_0 : dk cX1_fillUntold [(0, .aload_n 0, 1), (1, .aload_n 0, 1), (2, .getfield 19, 3), (5, .iconst (-1), 1), (6, .if_icmp .ne 7, 3), (9, .iconst 0, 1), (10, .goto 7, 3), (13, .aload_n 0, 1), (14, .getfield 19, 3), (17, .putfield 19, 3), (20, .aload_n 0, 1), (21, .aload_n 0, 1), (22, .getfield 22, 3), (25, .iconst (-1), 1), (26, .if_icmp .ne 8, 3), (29, .bipush 9, 2), (31, .goto 7, 3), (34, .aload_n 0, 1), (35, .getfield 22, 3), (38, .putfield 22, 3), (41, .return_, 1)] = true := by decide +kernel
theorem dX1_fillUntold_0 : decode cX1_fillUntold 0 = .ok (.aload_n 0, 1) := dk_at bX1_fillUntold_0 0 rfl
theorem dX1_fillUntold_1 : decode cX1_fillUntold 1 = .ok (.aload_n 0, 1) := dk_at bX1_fillUntold_0 1 rfl
theorem dX1_fillUntold_2 : decode cX1_fillUntold 2 = .ok (.getfield 19, 3) := dk_at bX1_fillUntold_0 2 rfl
theorem dX1_fillUntold_5 : decode cX1_fillUntold 5 = .ok (.iconst (-1), 1) := dk_at bX1_fillUntold_0 3 rfl
theorem dX1_fillUntold_6 : decode cX1_fillUntold 6 = .ok (.if_icmp .ne 7, 3) := dk_at bX1_fillUntold_0 4 rfl
theorem dX1_fillUntold_9 : decode cX1_fillUntold 9 = .ok (.iconst 0, 1) := dk_at bX1_fillUntold_0 5 rfl
theorem dX1_fillUntold_10 : decode cX1_fillUntold 10 = .ok (.goto 7, 3) := dk_at bX1_fillUntold_0 6 rfl
theorem dX1_fillUntold_13 : decode cX1_fillUntold 13 = .ok (.aload_n 0, 1) := dk_at bX1_fillUntold_0 7 rfl
theorem dX1_fillUntold_14 : decode cX1_fillUntold 14 = .ok (.getfield 19, 3) := dk_at bX1_fillUntold_0 8 rfl
theorem dX1_fillUntold_17 : decode cX1_fillUntold 17 = .ok (.putfield 19, 3) := dk_at bX1_fillUntold_0 9 rfl
theorem dX1_fillUntold_20 : decode cX1_fillUntold 20 = .ok (.aload_n 0, 1) := dk_at bX1_fillUntold_0 10 rfl
theorem dX1_fillUntold_21 : decode cX1_fillUntold 21 = .ok (.aload_n 0, 1) := dk_at bX1_fillUntold_0 11 rfl
theorem dX1_fillUntold_22 : decode cX1_fillUntold 22 = .ok (.getfield 22, 3) := dk_at bX1_fillUntold_0 12 rfl
theorem dX1_fillUntold_25 : decode cX1_fillUntold 25 = .ok (.iconst (-1), 1) := dk_at bX1_fillUntold_0 13 rfl
theorem dX1_fillUntold_26 : decode cX1_fillUntold 26 = .ok (.if_icmp .ne 8, 3) := dk_at bX1_fillUntold_0 14 rfl
theorem dX1_fillUntold_29 : decode cX1_fillUntold 29 = .ok (.bipush 9, 2) := dk_at bX1_fillUntold_0 15 rfl
theorem dX1_fillUntold_31 : decode cX1_fillUntold 31 = .ok (.goto 7, 3) := dk_at bX1_fillUntold_0 16 rfl
theorem dX1_fillUntold_34 : decode cX1_fillUntold 34 = .ok (.aload_n 0, 1) := dk_at bX1_fillUntold_0 17 rfl
theorem dX1_fillUntold_35 : decode cX1_fillUntold 35 = .ok (.getfield 22, 3) := dk_at bX1_fillUntold_0 18 rfl
theorem dX1_fillUntold_38 : decode cX1_fillUntold 38 = .ok (.putfield 22, 3) := dk_at bX1_fillUntold_0 19 rfl
theorem dX1_fillUntold_41 : decode cX1_fillUntold 41 = .ok (.return_, 1) := dk_at bX1_fillUntold_0 20 rfl
set_option maxRecDepth 20000 in
theorem ggX1_holds_X1_boxHolds : GoodIn wsX1_holds wsX1_boxHolds := goodIn_r _ [8, 9, 10, 11, 12, 13, 14, 7, 15, 16, 17, 18, 19, 20, 21, 22, 23, 24, 25, 26, 27, 28, 29, 30, 31, 32, 33, 34] rfl (by decide +kernel)
set_option maxRecDepth 20000 in
theorem gX1_holds_X1_boxHolds : GoodIn wsX1_holds (wsV RX1 28 RX1 yX1_boxHolds wsX1_boxHolds) := goodIn_app (goodIn_r _ [4, 5, 6, 7] rfl (by decide +kernel)) ggX1_holds_X1_boxHolds
theorem bX1_holds_0 : dk cX1_holds [(0, .iload_n 3, 1), (1, .aload_n 0, 1), (2, .getfield 19, 3), (5, .if_icmp .lt 12, 3), (8, .iload 4, 2), (10, .aload_n 0, 1), (11, .getfield 22, 3), (14, .if_icmp .le 5, 3), (17, .iconst 0, 1), (18, .ireturn, 1), (19, .iconst 0, 1), (20, .istore 5, 2), (22, .iload 5, 2), (24, .aload_n 0, 1), (25, .getfield 15, 3), (28, .if_icmp .ge 36, 3), (31, .iload 5, 2), (33, .bipush 12, 2), (35, .if_icmp .ge 29, 3), (38, .aload_n 0, 1), (39, .iload 5, 2), (41, .bipush 6, 2), (43, .imul, 1), (44, .iload_n 1, 1), (45, .iload_n 2, 1), (46, .sipush 360, 3), (49, .irem, 1), (50, .invokevirtual 28, 3), (53, .ifCond .eq 5, 3), (56, .iconst 0, 1), (57, .ireturn, 1), (58, .iinc 5 1, 3), (61, .goto (-39), 3), (64, .iconst 1, 1), (65, .ireturn, 1)] = true := by decide +kernel
theorem dX1_holds_0 : decode cX1_holds 0 = .ok (.iload_n 3, 1) := dk_at bX1_holds_0 0 rfl
theorem dX1_holds_1 : decode cX1_holds 1 = .ok (.aload_n 0, 1) := dk_at bX1_holds_0 1 rfl
theorem dX1_holds_2 : decode cX1_holds 2 = .ok (.getfield 19, 3) := dk_at bX1_holds_0 2 rfl
theorem dX1_holds_5 : decode cX1_holds 5 = .ok (.if_icmp .lt 12, 3) := dk_at bX1_holds_0 3 rfl
theorem dX1_holds_8 : decode cX1_holds 8 = .ok (.iload 4, 2) := dk_at bX1_holds_0 4 rfl
theorem dX1_holds_10 : decode cX1_holds 10 = .ok (.aload_n 0, 1) := dk_at bX1_holds_0 5 rfl
theorem dX1_holds_11 : decode cX1_holds 11 = .ok (.getfield 22, 3) := dk_at bX1_holds_0 6 rfl
theorem dX1_holds_14 : decode cX1_holds 14 = .ok (.if_icmp .le 5, 3) := dk_at bX1_holds_0 7 rfl
theorem dX1_holds_17 : decode cX1_holds 17 = .ok (.iconst 0, 1) := dk_at bX1_holds_0 8 rfl
theorem dX1_holds_18 : decode cX1_holds 18 = .ok (.ireturn, 1) := dk_at bX1_holds_0 9 rfl
theorem dX1_holds_19 : decode cX1_holds 19 = .ok (.iconst 0, 1) := dk_at bX1_holds_0 10 rfl
theorem dX1_holds_20 : decode cX1_holds 20 = .ok (.istore 5, 2) := dk_at bX1_holds_0 11 rfl
theorem dX1_holds_22 : decode cX1_holds 22 = .ok (.iload 5, 2) := dk_at bX1_holds_0 12 rfl
theorem dX1_holds_24 : decode cX1_holds 24 = .ok (.aload_n 0, 1) := dk_at bX1_holds_0 13 rfl
theorem dX1_holds_25 : decode cX1_holds 25 = .ok (.getfield 15, 3) := dk_at bX1_holds_0 14 rfl
theorem dX1_holds_28 : decode cX1_holds 28 = .ok (.if_icmp .ge 36, 3) := dk_at bX1_holds_0 15 rfl
theorem dX1_holds_31 : decode cX1_holds 31 = .ok (.iload 5, 2) := dk_at bX1_holds_0 16 rfl
theorem dX1_holds_33 : decode cX1_holds 33 = .ok (.bipush 12, 2) := dk_at bX1_holds_0 17 rfl
theorem dX1_holds_35 : decode cX1_holds 35 = .ok (.if_icmp .ge 29, 3) := dk_at bX1_holds_0 18 rfl
theorem dX1_holds_38 : decode cX1_holds 38 = .ok (.aload_n 0, 1) := dk_at bX1_holds_0 19 rfl
theorem dX1_holds_39 : decode cX1_holds 39 = .ok (.iload 5, 2) := dk_at bX1_holds_0 20 rfl
theorem dX1_holds_41 : decode cX1_holds 41 = .ok (.bipush 6, 2) := dk_at bX1_holds_0 21 rfl
theorem dX1_holds_43 : decode cX1_holds 43 = .ok (.imul, 1) := dk_at bX1_holds_0 22 rfl
theorem dX1_holds_44 : decode cX1_holds 44 = .ok (.iload_n 1, 1) := dk_at bX1_holds_0 23 rfl
theorem dX1_holds_45 : decode cX1_holds 45 = .ok (.iload_n 2, 1) := dk_at bX1_holds_0 24 rfl
theorem dX1_holds_46 : decode cX1_holds 46 = .ok (.sipush 360, 3) := dk_at bX1_holds_0 25 rfl
theorem dX1_holds_49 : decode cX1_holds 49 = .ok (.irem, 1) := dk_at bX1_holds_0 26 rfl
theorem dX1_holds_50 : decode cX1_holds 50 = .ok (.invokevirtual 28, 3) := dk_at bX1_holds_0 27 rfl
theorem dX1_holds_53 : decode cX1_holds 53 = .ok (.ifCond .eq 5, 3) := dk_at bX1_holds_0 28 rfl
theorem dX1_holds_56 : decode cX1_holds 56 = .ok (.iconst 0, 1) := dk_at bX1_holds_0 29 rfl
theorem dX1_holds_57 : decode cX1_holds 57 = .ok (.ireturn, 1) := dk_at bX1_holds_0 30 rfl
theorem dX1_holds_58 : decode cX1_holds 58 = .ok (.iinc 5 1, 3) := dk_at bX1_holds_0 31 rfl
theorem dX1_holds_61 : decode cX1_holds 61 = .ok (.goto (-39), 3) := dk_at bX1_holds_0 32 rfl
theorem dX1_holds_64 : decode cX1_holds 64 = .ok (.iconst 1, 1) := dk_at bX1_holds_0 33 rfl
theorem dX1_holds_65 : decode cX1_holds 65 = .ok (.ireturn, 1) := dk_at bX1_holds_0 34 rfl
set_option maxRecDepth 20000 in
theorem ggX1_boxHolds_X11_columnOf : GoodIn wsX1_boxHolds wsX11_columnOf := goodIn_r _ [4] rfl (by decide +kernel)
set_option maxRecDepth 20000 in
theorem gX1_boxHolds_X11_columnOf_n32 : GoodIn wsX1_boxHolds (wsX11_columnOf) := ggX1_boxHolds_X11_columnOf
set_option maxRecDepth 20000 in
theorem ggX1_boxHolds_X1_between : GoodIn wsX1_boxHolds wsX1_between := goodIn_r _ [8, 9, 10, 11, 12, 13, 14, 15, 16, 3, 17] rfl (by decide +kernel)
set_option maxRecDepth 20000 in
theorem gX1_boxHolds_X1_between : GoodIn wsX1_boxHolds (va_wsS RX1 36 yX1_between wsX1_between) := goodIn_app (goodIn_r _ [5, 6, 7] rfl (by decide +kernel)) ggX1_boxHolds_X1_between
set_option maxRecDepth 20000 in
theorem ggX1_boxHolds_X11_rowOf : GoodIn wsX1_boxHolds wsX11_rowOf := goodIn_r _ [19] rfl (by decide +kernel)
set_option maxRecDepth 20000 in
theorem gX1_boxHolds_X11_rowOf_n39 : GoodIn wsX1_boxHolds (wsX11_rowOf) := ggX1_boxHolds_X11_rowOf
set_option maxRecDepth 20000 in
theorem ggX1_boxHolds_X1_inSeason : GoodIn wsX1_boxHolds wsX1_inSeason := goodIn_r _ [22, 16, 3, 17] rfl (by decide +kernel)
set_option maxRecDepth 20000 in
theorem gX1_boxHolds_X1_inSeason : GoodIn wsX1_boxHolds (va_wsS RX1 42 yX1_inSeason wsX1_inSeason) := goodIn_app (goodIn_r _ [20, 21, 7] rfl (by decide +kernel)) ggX1_boxHolds_X1_inSeason
theorem bX1_boxHolds_0 : dk cX1_boxHolds [(0, .iload_n 2, 1), (1, .invokestatic 32, 3), (4, .aload_n 0, 1), (5, .getfield 9, 3), (8, .iload_n 1, 1), (9, .iaload, 1), (10, .aload_n 0, 1), (11, .getfield 9, 3), (14, .iload_n 1, 1), (15, .iconst 2, 1), (16, .iadd, 1), (17, .iaload, 1), (18, .invokestatic 36, 3), (21, .ifCond .eq 56, 3), (24, .iload_n 2, 1), (25, .invokestatic 39, 3), (28, .aload_n 0, 1), (29, .getfield 9, 3), (32, .iload_n 1, 1), (33, .iconst 1, 1), (34, .iadd, 1), (35, .iaload, 1), (36, .aload_n 0, 1), (37, .getfield 9, 3), (40, .iload_n 1, 1), (41, .iconst 3, 1), (42, .iadd, 1), (43, .iaload, 1), (44, .invokestatic 36, 3), (47, .ifCond .eq 30, 3), (50, .iload_n 3, 1), (51, .aload_n 0, 1), (52, .getfield 9, 3), (55, .iload_n 1, 1), (56, .iconst 4, 1), (57, .iadd, 1), (58, .iaload, 1), (59, .aload_n 0, 1), (60, .getfield 9, 3), (63, .iload_n 1, 1)] = true := by decide +kernel
theorem dX1_boxHolds_0 : decode cX1_boxHolds 0 = .ok (.iload_n 2, 1) := dk_at bX1_boxHolds_0 0 rfl
theorem dX1_boxHolds_1 : decode cX1_boxHolds 1 = .ok (.invokestatic 32, 3) := dk_at bX1_boxHolds_0 1 rfl
theorem dX1_boxHolds_4 : decode cX1_boxHolds 4 = .ok (.aload_n 0, 1) := dk_at bX1_boxHolds_0 2 rfl
theorem dX1_boxHolds_5 : decode cX1_boxHolds 5 = .ok (.getfield 9, 3) := dk_at bX1_boxHolds_0 3 rfl
theorem dX1_boxHolds_8 : decode cX1_boxHolds 8 = .ok (.iload_n 1, 1) := dk_at bX1_boxHolds_0 4 rfl
theorem dX1_boxHolds_9 : decode cX1_boxHolds 9 = .ok (.iaload, 1) := dk_at bX1_boxHolds_0 5 rfl
theorem dX1_boxHolds_10 : decode cX1_boxHolds 10 = .ok (.aload_n 0, 1) := dk_at bX1_boxHolds_0 6 rfl
theorem dX1_boxHolds_11 : decode cX1_boxHolds 11 = .ok (.getfield 9, 3) := dk_at bX1_boxHolds_0 7 rfl
theorem dX1_boxHolds_14 : decode cX1_boxHolds 14 = .ok (.iload_n 1, 1) := dk_at bX1_boxHolds_0 8 rfl
theorem dX1_boxHolds_15 : decode cX1_boxHolds 15 = .ok (.iconst 2, 1) := dk_at bX1_boxHolds_0 9 rfl
theorem dX1_boxHolds_16 : decode cX1_boxHolds 16 = .ok (.iadd, 1) := dk_at bX1_boxHolds_0 10 rfl
theorem dX1_boxHolds_17 : decode cX1_boxHolds 17 = .ok (.iaload, 1) := dk_at bX1_boxHolds_0 11 rfl
theorem dX1_boxHolds_18 : decode cX1_boxHolds 18 = .ok (.invokestatic 36, 3) := dk_at bX1_boxHolds_0 12 rfl
theorem dX1_boxHolds_21 : decode cX1_boxHolds 21 = .ok (.ifCond .eq 56, 3) := dk_at bX1_boxHolds_0 13 rfl
theorem dX1_boxHolds_24 : decode cX1_boxHolds 24 = .ok (.iload_n 2, 1) := dk_at bX1_boxHolds_0 14 rfl
theorem dX1_boxHolds_25 : decode cX1_boxHolds 25 = .ok (.invokestatic 39, 3) := dk_at bX1_boxHolds_0 15 rfl
theorem dX1_boxHolds_28 : decode cX1_boxHolds 28 = .ok (.aload_n 0, 1) := dk_at bX1_boxHolds_0 16 rfl
theorem dX1_boxHolds_29 : decode cX1_boxHolds 29 = .ok (.getfield 9, 3) := dk_at bX1_boxHolds_0 17 rfl
theorem dX1_boxHolds_32 : decode cX1_boxHolds 32 = .ok (.iload_n 1, 1) := dk_at bX1_boxHolds_0 18 rfl
theorem dX1_boxHolds_33 : decode cX1_boxHolds 33 = .ok (.iconst 1, 1) := dk_at bX1_boxHolds_0 19 rfl
theorem dX1_boxHolds_34 : decode cX1_boxHolds 34 = .ok (.iadd, 1) := dk_at bX1_boxHolds_0 20 rfl
theorem dX1_boxHolds_35 : decode cX1_boxHolds 35 = .ok (.iaload, 1) := dk_at bX1_boxHolds_0 21 rfl
theorem dX1_boxHolds_36 : decode cX1_boxHolds 36 = .ok (.aload_n 0, 1) := dk_at bX1_boxHolds_0 22 rfl
theorem dX1_boxHolds_37 : decode cX1_boxHolds 37 = .ok (.getfield 9, 3) := dk_at bX1_boxHolds_0 23 rfl
theorem dX1_boxHolds_40 : decode cX1_boxHolds 40 = .ok (.iload_n 1, 1) := dk_at bX1_boxHolds_0 24 rfl
theorem dX1_boxHolds_41 : decode cX1_boxHolds 41 = .ok (.iconst 3, 1) := dk_at bX1_boxHolds_0 25 rfl
theorem dX1_boxHolds_42 : decode cX1_boxHolds 42 = .ok (.iadd, 1) := dk_at bX1_boxHolds_0 26 rfl
theorem dX1_boxHolds_43 : decode cX1_boxHolds 43 = .ok (.iaload, 1) := dk_at bX1_boxHolds_0 27 rfl
theorem dX1_boxHolds_44 : decode cX1_boxHolds 44 = .ok (.invokestatic 36, 3) := dk_at bX1_boxHolds_0 28 rfl
theorem dX1_boxHolds_47 : decode cX1_boxHolds 47 = .ok (.ifCond .eq 30, 3) := dk_at bX1_boxHolds_0 29 rfl
theorem dX1_boxHolds_50 : decode cX1_boxHolds 50 = .ok (.iload_n 3, 1) := dk_at bX1_boxHolds_0 30 rfl
theorem dX1_boxHolds_51 : decode cX1_boxHolds 51 = .ok (.aload_n 0, 1) := dk_at bX1_boxHolds_0 31 rfl
theorem dX1_boxHolds_52 : decode cX1_boxHolds 52 = .ok (.getfield 9, 3) := dk_at bX1_boxHolds_0 32 rfl
theorem dX1_boxHolds_55 : decode cX1_boxHolds 55 = .ok (.iload_n 1, 1) := dk_at bX1_boxHolds_0 33 rfl
theorem dX1_boxHolds_56 : decode cX1_boxHolds 56 = .ok (.iconst 4, 1) := dk_at bX1_boxHolds_0 34 rfl
theorem dX1_boxHolds_57 : decode cX1_boxHolds 57 = .ok (.iadd, 1) := dk_at bX1_boxHolds_0 35 rfl
theorem dX1_boxHolds_58 : decode cX1_boxHolds 58 = .ok (.iaload, 1) := dk_at bX1_boxHolds_0 36 rfl
theorem dX1_boxHolds_59 : decode cX1_boxHolds 59 = .ok (.aload_n 0, 1) := dk_at bX1_boxHolds_0 37 rfl
theorem dX1_boxHolds_60 : decode cX1_boxHolds 60 = .ok (.getfield 9, 3) := dk_at bX1_boxHolds_0 38 rfl
theorem dX1_boxHolds_63 : decode cX1_boxHolds 63 = .ok (.iload_n 1, 1) := dk_at bX1_boxHolds_0 39 rfl
theorem bX1_boxHolds_64 : dk cX1_boxHolds [(64, .iconst 5, 1), (65, .iadd, 1), (66, .iaload, 1), (67, .invokestatic 42, 3), (70, .ifCond .eq 7, 3), (73, .iconst 1, 1), (74, .goto 4, 3), (77, .iconst 0, 1), (78, .ireturn, 1)] = true := by decide +kernel
theorem dX1_boxHolds_64 : decode cX1_boxHolds 64 = .ok (.iconst 5, 1) := dk_at bX1_boxHolds_64 0 rfl
theorem dX1_boxHolds_65 : decode cX1_boxHolds 65 = .ok (.iadd, 1) := dk_at bX1_boxHolds_64 1 rfl
theorem dX1_boxHolds_66 : decode cX1_boxHolds 66 = .ok (.iaload, 1) := dk_at bX1_boxHolds_64 2 rfl
theorem dX1_boxHolds_67 : decode cX1_boxHolds 67 = .ok (.invokestatic 42, 3) := dk_at bX1_boxHolds_64 3 rfl
theorem dX1_boxHolds_70 : decode cX1_boxHolds 70 = .ok (.ifCond .eq 7, 3) := dk_at bX1_boxHolds_64 4 rfl
theorem dX1_boxHolds_73 : decode cX1_boxHolds 73 = .ok (.iconst 1, 1) := dk_at bX1_boxHolds_64 5 rfl
theorem dX1_boxHolds_74 : decode cX1_boxHolds 74 = .ok (.goto 4, 3) := dk_at bX1_boxHolds_64 6 rfl
theorem dX1_boxHolds_77 : decode cX1_boxHolds 77 = .ok (.iconst 0, 1) := dk_at bX1_boxHolds_64 7 rfl
theorem dX1_boxHolds_78 : decode cX1_boxHolds 78 = .ok (.ireturn, 1) := dk_at bX1_boxHolds_64 8 rfl
set_option maxRecDepth 20000 in
theorem ggX1_between_X11_within : GoodIn wsX1_between wsX11_within := goodIn_r _ [10] rfl (by decide +kernel)
set_option maxRecDepth 20000 in
theorem gX1_between_X11_within_n54 : GoodIn wsX1_between (wsX11_within) := ggX1_between_X11_within
theorem bX1_between_0 : dk cX1_between [(0, .iload_n 0, 1), (1, .iload_n 1, 1), (2, .iload_n 2, 1), (3, .invokestatic 45, 3), (6, .iload_n 1, 1), (7, .iload_n 2, 1), (8, .invokestatic 51, 3), (11, .invokestatic 54, 3), (14, .ireturn, 1)] = true := by decide +kernel
theorem dX1_between_0 : decode cX1_between 0 = .ok (.iload_n 0, 1) := dk_at bX1_between_0 0 rfl
theorem dX1_between_1 : decode cX1_between 1 = .ok (.iload_n 1, 1) := dk_at bX1_between_0 1 rfl
theorem dX1_between_2 : decode cX1_between 2 = .ok (.iload_n 2, 1) := dk_at bX1_between_0 2 rfl
theorem dX1_between_3 : decode cX1_between 3 = .ok (.invokestatic 45, 3) := dk_at bX1_between_0 3 rfl
theorem dX1_between_6 : decode cX1_between 6 = .ok (.iload_n 1, 1) := dk_at bX1_between_0 4 rfl
theorem dX1_between_7 : decode cX1_between 7 = .ok (.iload_n 2, 1) := dk_at bX1_between_0 5 rfl
theorem dX1_between_8 : decode cX1_between 8 = .ok (.invokestatic 51, 3) := dk_at bX1_between_0 6 rfl
theorem dX1_between_11 : decode cX1_between 11 = .ok (.invokestatic 54, 3) := dk_at bX1_between_0 7 rfl
theorem dX1_between_14 : decode cX1_between 14 = .ok (.ireturn, 1) := dk_at bX1_between_0 8 rfl
set_option maxRecDepth 20000 in
theorem ggX1_inSeason_X11_within : GoodIn wsX1_inSeason wsX11_within := goodIn_r _ [3] rfl (by decide +kernel)
set_option maxRecDepth 20000 in
theorem gX1_inSeason_X11_within_n54 : GoodIn wsX1_inSeason (wsX11_within) := ggX1_inSeason_X11_within
theorem bX1_inSeason_0 : dk cX1_inSeason [(0, .iload_n 2, 1), (1, .iload_n 1, 1), (2, .if_icmp .ge 21, 3), (5, .iload_n 0, 1), (6, .iload_n 1, 1), (7, .if_icmp .ge 8, 3), (10, .iload_n 0, 1), (11, .iload_n 2, 1), (12, .if_icmp .gt 7, 3), (15, .iconst 1, 1), (16, .goto 13, 3), (19, .iconst 0, 1), (20, .goto 9, 3), (23, .iload_n 0, 1), (24, .iload_n 1, 1), (25, .iload_n 2, 1), (26, .invokestatic 54, 3), (29, .ireturn, 1)] = true := by decide +kernel
theorem dX1_inSeason_0 : decode cX1_inSeason 0 = .ok (.iload_n 2, 1) := dk_at bX1_inSeason_0 0 rfl
theorem dX1_inSeason_1 : decode cX1_inSeason 1 = .ok (.iload_n 1, 1) := dk_at bX1_inSeason_0 1 rfl
theorem dX1_inSeason_2 : decode cX1_inSeason 2 = .ok (.if_icmp .ge 21, 3) := dk_at bX1_inSeason_0 2 rfl
theorem dX1_inSeason_5 : decode cX1_inSeason 5 = .ok (.iload_n 0, 1) := dk_at bX1_inSeason_0 3 rfl
theorem dX1_inSeason_6 : decode cX1_inSeason 6 = .ok (.iload_n 1, 1) := dk_at bX1_inSeason_0 4 rfl
theorem dX1_inSeason_7 : decode cX1_inSeason 7 = .ok (.if_icmp .ge 8, 3) := dk_at bX1_inSeason_0 5 rfl
theorem dX1_inSeason_10 : decode cX1_inSeason 10 = .ok (.iload_n 0, 1) := dk_at bX1_inSeason_0 6 rfl
theorem dX1_inSeason_11 : decode cX1_inSeason 11 = .ok (.iload_n 2, 1) := dk_at bX1_inSeason_0 7 rfl
theorem dX1_inSeason_12 : decode cX1_inSeason 12 = .ok (.if_icmp .gt 7, 3) := dk_at bX1_inSeason_0 8 rfl
theorem dX1_inSeason_15 : decode cX1_inSeason 15 = .ok (.iconst 1, 1) := dk_at bX1_inSeason_0 9 rfl
theorem dX1_inSeason_16 : decode cX1_inSeason 16 = .ok (.goto 13, 3) := dk_at bX1_inSeason_0 10 rfl
theorem dX1_inSeason_19 : decode cX1_inSeason 19 = .ok (.iconst 0, 1) := dk_at bX1_inSeason_0 11 rfl
theorem dX1_inSeason_20 : decode cX1_inSeason 20 = .ok (.goto 9, 3) := dk_at bX1_inSeason_0 12 rfl
theorem dX1_inSeason_23 : decode cX1_inSeason 23 = .ok (.iload_n 0, 1) := dk_at bX1_inSeason_0 13 rfl
theorem dX1_inSeason_24 : decode cX1_inSeason 24 = .ok (.iload_n 1, 1) := dk_at bX1_inSeason_0 14 rfl
theorem dX1_inSeason_25 : decode cX1_inSeason 25 = .ok (.iload_n 2, 1) := dk_at bX1_inSeason_0 15 rfl
theorem dX1_inSeason_26 : decode cX1_inSeason 26 = .ok (.invokestatic 54, 3) := dk_at bX1_inSeason_0 16 rfl
theorem dX1_inSeason_29 : decode cX1_inSeason 29 = .ok (.ireturn, 1) := dk_at bX1_inSeason_0 17 rfl
set_option maxRecDepth 20000 in
theorem ggX2_init_J7_fill_53178 : GoodIn wsX2_init wsJ7_fill_53178 := goodIn_r _ [17] rfl (by decide +kernel)
set_option maxRecDepth 20000 in
theorem gX2_init_J7_fill_53178 : GoodIn wsX2_init (va_wsS RX2 40 yJ7_fill_53178 wsJ7_fill_53178) := goodIn_app (goodIn_r _ [14, 15, 16] rfl (by decide +kernel)) ggX2_init_J7_fill_53178
theorem bX2_init_0 : dk cX2_init [(0, .aload_n 0, 1), (1, .invokespecial 3, 3), (4, .aload_n 0, 1), (5, .bipush 7, 2), (7, .newarray .int, 2), (9, .putfield 9, 3), (12, .aload_n 0, 1), (13, .bipush 7, 2), (15, .newarray .int, 2), (17, .putfield 15, 3), (20, .aload_n 0, 1), (21, .bipush 7, 2), (23, .newarray .int, 2), (25, .putfield 18, 3), (28, .aload_n 0, 1), (29, .bipush 7, 2), (31, .newarray .int, 2), (33, .putfield 21, 3), (36, .aload_n 0, 1), (37, .bipush 7, 2), (39, .newarray .int, 2), (41, .putfield 24, 3), (44, .aload_n 0, 1), (45, .iconst 0, 1), (46, .putfield 27, 3), (49, .aload_n 0, 1), (50, .iconst 4, 1), (51, .newarray .int, 2), (53, .dup, 1), (54, .iconst 0, 1), (55, .iconst (-1), 1), (56, .iastore, 1), (57, .dup, 1), (58, .iconst 1, 1), (59, .iconst (-1), 1), (60, .iastore, 1), (61, .dup, 1), (62, .iconst 2, 1), (63, .iconst (-1), 1), (64, .iastore, 1)] = true := by decide +kernel
theorem dX2_init_0 : decode cX2_init 0 = .ok (.aload_n 0, 1) := dk_at bX2_init_0 0 rfl
theorem dX2_init_1 : decode cX2_init 1 = .ok (.invokespecial 3, 3) := dk_at bX2_init_0 1 rfl
theorem dX2_init_4 : decode cX2_init 4 = .ok (.aload_n 0, 1) := dk_at bX2_init_0 2 rfl
theorem dX2_init_5 : decode cX2_init 5 = .ok (.bipush 7, 2) := dk_at bX2_init_0 3 rfl
theorem dX2_init_7 : decode cX2_init 7 = .ok (.newarray .int, 2) := dk_at bX2_init_0 4 rfl
theorem dX2_init_9 : decode cX2_init 9 = .ok (.putfield 9, 3) := dk_at bX2_init_0 5 rfl
theorem dX2_init_12 : decode cX2_init 12 = .ok (.aload_n 0, 1) := dk_at bX2_init_0 6 rfl
theorem dX2_init_13 : decode cX2_init 13 = .ok (.bipush 7, 2) := dk_at bX2_init_0 7 rfl
theorem dX2_init_15 : decode cX2_init 15 = .ok (.newarray .int, 2) := dk_at bX2_init_0 8 rfl
theorem dX2_init_17 : decode cX2_init 17 = .ok (.putfield 15, 3) := dk_at bX2_init_0 9 rfl
theorem dX2_init_20 : decode cX2_init 20 = .ok (.aload_n 0, 1) := dk_at bX2_init_0 10 rfl
theorem dX2_init_21 : decode cX2_init 21 = .ok (.bipush 7, 2) := dk_at bX2_init_0 11 rfl
theorem dX2_init_23 : decode cX2_init 23 = .ok (.newarray .int, 2) := dk_at bX2_init_0 12 rfl
theorem dX2_init_25 : decode cX2_init 25 = .ok (.putfield 18, 3) := dk_at bX2_init_0 13 rfl
theorem dX2_init_28 : decode cX2_init 28 = .ok (.aload_n 0, 1) := dk_at bX2_init_0 14 rfl
theorem dX2_init_29 : decode cX2_init 29 = .ok (.bipush 7, 2) := dk_at bX2_init_0 15 rfl
theorem dX2_init_31 : decode cX2_init 31 = .ok (.newarray .int, 2) := dk_at bX2_init_0 16 rfl
theorem dX2_init_33 : decode cX2_init 33 = .ok (.putfield 21, 3) := dk_at bX2_init_0 17 rfl
theorem dX2_init_36 : decode cX2_init 36 = .ok (.aload_n 0, 1) := dk_at bX2_init_0 18 rfl
theorem dX2_init_37 : decode cX2_init 37 = .ok (.bipush 7, 2) := dk_at bX2_init_0 19 rfl
theorem dX2_init_39 : decode cX2_init 39 = .ok (.newarray .int, 2) := dk_at bX2_init_0 20 rfl
theorem dX2_init_41 : decode cX2_init 41 = .ok (.putfield 24, 3) := dk_at bX2_init_0 21 rfl
theorem dX2_init_44 : decode cX2_init 44 = .ok (.aload_n 0, 1) := dk_at bX2_init_0 22 rfl
theorem dX2_init_45 : decode cX2_init 45 = .ok (.iconst 0, 1) := dk_at bX2_init_0 23 rfl
theorem dX2_init_46 : decode cX2_init 46 = .ok (.putfield 27, 3) := dk_at bX2_init_0 24 rfl
theorem dX2_init_49 : decode cX2_init 49 = .ok (.aload_n 0, 1) := dk_at bX2_init_0 25 rfl
theorem dX2_init_50 : decode cX2_init 50 = .ok (.iconst 4, 1) := dk_at bX2_init_0 26 rfl
theorem dX2_init_51 : decode cX2_init 51 = .ok (.newarray .int, 2) := dk_at bX2_init_0 27 rfl
theorem dX2_init_53 : decode cX2_init 53 = .ok (.dup, 1) := dk_at bX2_init_0 28 rfl
theorem dX2_init_54 : decode cX2_init 54 = .ok (.iconst 0, 1) := dk_at bX2_init_0 29 rfl
theorem dX2_init_55 : decode cX2_init 55 = .ok (.iconst (-1), 1) := dk_at bX2_init_0 30 rfl
theorem dX2_init_56 : decode cX2_init 56 = .ok (.iastore, 1) := dk_at bX2_init_0 31 rfl
theorem dX2_init_57 : decode cX2_init 57 = .ok (.dup, 1) := dk_at bX2_init_0 32 rfl
theorem dX2_init_58 : decode cX2_init 58 = .ok (.iconst 1, 1) := dk_at bX2_init_0 33 rfl
theorem dX2_init_59 : decode cX2_init 59 = .ok (.iconst (-1), 1) := dk_at bX2_init_0 34 rfl
theorem dX2_init_60 : decode cX2_init 60 = .ok (.iastore, 1) := dk_at bX2_init_0 35 rfl
theorem dX2_init_61 : decode cX2_init 61 = .ok (.dup, 1) := dk_at bX2_init_0 36 rfl
theorem dX2_init_62 : decode cX2_init 62 = .ok (.iconst 2, 1) := dk_at bX2_init_0 37 rfl
theorem dX2_init_63 : decode cX2_init 63 = .ok (.iconst (-1), 1) := dk_at bX2_init_0 38 rfl
theorem dX2_init_64 : decode cX2_init 64 = .ok (.iastore, 1) := dk_at bX2_init_0 39 rfl
theorem bX2_init_65 : dk cX2_init [(65, .dup, 1), (66, .iconst 3, 1), (67, .iconst (-1), 1), (68, .iastore, 1), (69, .putfield 31, 3), (72, .aload_n 0, 1), (73, .iconst 4, 1), (74, .newarray .int, 2), (76, .putfield 34, 3), (79, .aload_n 0, 1), (80, .bipush 100, 2), (82, .newarray .int, 2), (84, .putfield 37, 3), (87, .aload_n 0, 1), (88, .getfield 37, 3), (91, .iconst (-1), 1), (92, .invokestatic 40, 3), (95, .iconst 0, 1), (96, .istore_n 1, 1), (97, .iload_n 1, 1), (98, .bipush 10, 2), (100, .if_icmp .ge 21, 3), (103, .aload_n 0, 1), (104, .getfield 37, 3), (107, .iload_n 1, 1), (108, .bipush 10, 2), (110, .imul, 1), (111, .iload_n 1, 1), (112, .iadd, 1), (113, .iconst 0, 1), (114, .iastore, 1), (115, .iinc 1 1, 3), (118, .goto (-21), 3), (121, .return_, 1)] = true := by decide +kernel
theorem dX2_init_65 : decode cX2_init 65 = .ok (.dup, 1) := dk_at bX2_init_65 0 rfl
theorem dX2_init_66 : decode cX2_init 66 = .ok (.iconst 3, 1) := dk_at bX2_init_65 1 rfl
theorem dX2_init_67 : decode cX2_init 67 = .ok (.iconst (-1), 1) := dk_at bX2_init_65 2 rfl
theorem dX2_init_68 : decode cX2_init 68 = .ok (.iastore, 1) := dk_at bX2_init_65 3 rfl
theorem dX2_init_69 : decode cX2_init 69 = .ok (.putfield 31, 3) := dk_at bX2_init_65 4 rfl
theorem dX2_init_72 : decode cX2_init 72 = .ok (.aload_n 0, 1) := dk_at bX2_init_65 5 rfl
theorem dX2_init_73 : decode cX2_init 73 = .ok (.iconst 4, 1) := dk_at bX2_init_65 6 rfl
theorem dX2_init_74 : decode cX2_init 74 = .ok (.newarray .int, 2) := dk_at bX2_init_65 7 rfl
theorem dX2_init_76 : decode cX2_init 76 = .ok (.putfield 34, 3) := dk_at bX2_init_65 8 rfl
theorem dX2_init_79 : decode cX2_init 79 = .ok (.aload_n 0, 1) := dk_at bX2_init_65 9 rfl
theorem dX2_init_80 : decode cX2_init 80 = .ok (.bipush 100, 2) := dk_at bX2_init_65 10 rfl
theorem dX2_init_82 : decode cX2_init 82 = .ok (.newarray .int, 2) := dk_at bX2_init_65 11 rfl
theorem dX2_init_84 : decode cX2_init 84 = .ok (.putfield 37, 3) := dk_at bX2_init_65 12 rfl
theorem dX2_init_87 : decode cX2_init 87 = .ok (.aload_n 0, 1) := dk_at bX2_init_65 13 rfl
theorem dX2_init_88 : decode cX2_init 88 = .ok (.getfield 37, 3) := dk_at bX2_init_65 14 rfl
theorem dX2_init_91 : decode cX2_init 91 = .ok (.iconst (-1), 1) := dk_at bX2_init_65 15 rfl
theorem dX2_init_92 : decode cX2_init 92 = .ok (.invokestatic 40, 3) := dk_at bX2_init_65 16 rfl
theorem dX2_init_95 : decode cX2_init 95 = .ok (.iconst 0, 1) := dk_at bX2_init_65 17 rfl
theorem dX2_init_96 : decode cX2_init 96 = .ok (.istore_n 1, 1) := dk_at bX2_init_65 18 rfl
theorem dX2_init_97 : decode cX2_init 97 = .ok (.iload_n 1, 1) := dk_at bX2_init_65 19 rfl
theorem dX2_init_98 : decode cX2_init 98 = .ok (.bipush 10, 2) := dk_at bX2_init_65 20 rfl
theorem dX2_init_100 : decode cX2_init 100 = .ok (.if_icmp .ge 21, 3) := dk_at bX2_init_65 21 rfl
theorem dX2_init_103 : decode cX2_init 103 = .ok (.aload_n 0, 1) := dk_at bX2_init_65 22 rfl
theorem dX2_init_104 : decode cX2_init 104 = .ok (.getfield 37, 3) := dk_at bX2_init_65 23 rfl
theorem dX2_init_107 : decode cX2_init 107 = .ok (.iload_n 1, 1) := dk_at bX2_init_65 24 rfl
theorem dX2_init_108 : decode cX2_init 108 = .ok (.bipush 10, 2) := dk_at bX2_init_65 25 rfl
theorem dX2_init_110 : decode cX2_init 110 = .ok (.imul, 1) := dk_at bX2_init_65 26 rfl
theorem dX2_init_111 : decode cX2_init 111 = .ok (.iload_n 1, 1) := dk_at bX2_init_65 27 rfl
theorem dX2_init_112 : decode cX2_init 112 = .ok (.iadd, 1) := dk_at bX2_init_65 28 rfl
theorem dX2_init_113 : decode cX2_init 113 = .ok (.iconst 0, 1) := dk_at bX2_init_65 29 rfl
theorem dX2_init_114 : decode cX2_init 114 = .ok (.iastore, 1) := dk_at bX2_init_65 30 rfl
theorem dX2_init_115 : decode cX2_init 115 = .ok (.iinc 1 1, 3) := dk_at bX2_init_65 31 rfl
theorem dX2_init_118 : decode cX2_init 118 = .ok (.goto (-21), 3) := dk_at bX2_init_65 32 rfl
theorem dX2_init_121 : decode cX2_init 121 = .ok (.return_, 1) := dk_at bX2_init_65 33 rfl
set_option maxRecDepth 20000 in
theorem ggX2_add_X11_below : GoodIn wsX2_add wsX11_below := goodIn_r _ [9] rfl (by decide +kernel)
set_option maxRecDepth 20000 in
theorem gX2_add_X11_below_n46 : GoodIn wsX2_add (wsX11_below) := ggX2_add_X11_below
theorem bX2_add_0 : dk cX2_add [(0, .aload_n 0, 1), (1, .getfield 27, 3), (4, .bipush 7, 2), (6, .invokestatic 46, 3), (9, .ifCond .ne 6, 3), (12, .bipush (-3), 2), (14, .ireturn, 1), (15, .aload_n 0, 1), (16, .getfield 9, 3), (19, .aload_n 0, 1), (20, .getfield 27, 3), (23, .iload_n 1, 1), (24, .iastore, 1), (25, .aload_n 0, 1), (26, .getfield 15, 3), (29, .aload_n 0, 1), (30, .getfield 27, 3), (33, .iload_n 2, 1), (34, .iastore, 1), (35, .aload_n 0, 1), (36, .getfield 18, 3), (39, .aload_n 0, 1), (40, .getfield 27, 3), (43, .iload_n 3, 1), (44, .iastore, 1), (45, .aload_n 0, 1), (46, .getfield 21, 3), (49, .aload_n 0, 1), (50, .getfield 27, 3), (53, .iload 4, 2), (55, .iastore, 1), (56, .aload_n 0, 1), (57, .getfield 24, 3), (60, .aload_n 0, 1), (61, .getfield 27, 3), (64, .iload 5, 2), (66, .iastore, 1), (67, .aload_n 0, 1), (68, .dup, 1), (69, .getfield 27, 3)] = true := by decide +kernel
theorem dX2_add_0 : decode cX2_add 0 = .ok (.aload_n 0, 1) := dk_at bX2_add_0 0 rfl
theorem dX2_add_1 : decode cX2_add 1 = .ok (.getfield 27, 3) := dk_at bX2_add_0 1 rfl
theorem dX2_add_4 : decode cX2_add 4 = .ok (.bipush 7, 2) := dk_at bX2_add_0 2 rfl
theorem dX2_add_6 : decode cX2_add 6 = .ok (.invokestatic 46, 3) := dk_at bX2_add_0 3 rfl
theorem dX2_add_9 : decode cX2_add 9 = .ok (.ifCond .ne 6, 3) := dk_at bX2_add_0 4 rfl
theorem dX2_add_12 : decode cX2_add 12 = .ok (.bipush (-3), 2) := dk_at bX2_add_0 5 rfl
theorem dX2_add_14 : decode cX2_add 14 = .ok (.ireturn, 1) := dk_at bX2_add_0 6 rfl
theorem dX2_add_15 : decode cX2_add 15 = .ok (.aload_n 0, 1) := dk_at bX2_add_0 7 rfl
theorem dX2_add_16 : decode cX2_add 16 = .ok (.getfield 9, 3) := dk_at bX2_add_0 8 rfl
theorem dX2_add_19 : decode cX2_add 19 = .ok (.aload_n 0, 1) := dk_at bX2_add_0 9 rfl
theorem dX2_add_20 : decode cX2_add 20 = .ok (.getfield 27, 3) := dk_at bX2_add_0 10 rfl
theorem dX2_add_23 : decode cX2_add 23 = .ok (.iload_n 1, 1) := dk_at bX2_add_0 11 rfl
theorem dX2_add_24 : decode cX2_add 24 = .ok (.iastore, 1) := dk_at bX2_add_0 12 rfl
theorem dX2_add_25 : decode cX2_add 25 = .ok (.aload_n 0, 1) := dk_at bX2_add_0 13 rfl
theorem dX2_add_26 : decode cX2_add 26 = .ok (.getfield 15, 3) := dk_at bX2_add_0 14 rfl
theorem dX2_add_29 : decode cX2_add 29 = .ok (.aload_n 0, 1) := dk_at bX2_add_0 15 rfl
theorem dX2_add_30 : decode cX2_add 30 = .ok (.getfield 27, 3) := dk_at bX2_add_0 16 rfl
theorem dX2_add_33 : decode cX2_add 33 = .ok (.iload_n 2, 1) := dk_at bX2_add_0 17 rfl
theorem dX2_add_34 : decode cX2_add 34 = .ok (.iastore, 1) := dk_at bX2_add_0 18 rfl
theorem dX2_add_35 : decode cX2_add 35 = .ok (.aload_n 0, 1) := dk_at bX2_add_0 19 rfl
theorem dX2_add_36 : decode cX2_add 36 = .ok (.getfield 18, 3) := dk_at bX2_add_0 20 rfl
theorem dX2_add_39 : decode cX2_add 39 = .ok (.aload_n 0, 1) := dk_at bX2_add_0 21 rfl
theorem dX2_add_40 : decode cX2_add 40 = .ok (.getfield 27, 3) := dk_at bX2_add_0 22 rfl
theorem dX2_add_43 : decode cX2_add 43 = .ok (.iload_n 3, 1) := dk_at bX2_add_0 23 rfl
theorem dX2_add_44 : decode cX2_add 44 = .ok (.iastore, 1) := dk_at bX2_add_0 24 rfl
theorem dX2_add_45 : decode cX2_add 45 = .ok (.aload_n 0, 1) := dk_at bX2_add_0 25 rfl
theorem dX2_add_46 : decode cX2_add 46 = .ok (.getfield 21, 3) := dk_at bX2_add_0 26 rfl
theorem dX2_add_49 : decode cX2_add 49 = .ok (.aload_n 0, 1) := dk_at bX2_add_0 27 rfl
theorem dX2_add_50 : decode cX2_add 50 = .ok (.getfield 27, 3) := dk_at bX2_add_0 28 rfl
theorem dX2_add_53 : decode cX2_add 53 = .ok (.iload 4, 2) := dk_at bX2_add_0 29 rfl
theorem dX2_add_55 : decode cX2_add 55 = .ok (.iastore, 1) := dk_at bX2_add_0 30 rfl
theorem dX2_add_56 : decode cX2_add 56 = .ok (.aload_n 0, 1) := dk_at bX2_add_0 31 rfl
theorem dX2_add_57 : decode cX2_add 57 = .ok (.getfield 24, 3) := dk_at bX2_add_0 32 rfl
theorem dX2_add_60 : decode cX2_add 60 = .ok (.aload_n 0, 1) := dk_at bX2_add_0 33 rfl
theorem dX2_add_61 : decode cX2_add 61 = .ok (.getfield 27, 3) := dk_at bX2_add_0 34 rfl
theorem dX2_add_64 : decode cX2_add 64 = .ok (.iload 5, 2) := dk_at bX2_add_0 35 rfl
theorem dX2_add_66 : decode cX2_add 66 = .ok (.iastore, 1) := dk_at bX2_add_0 36 rfl
theorem dX2_add_67 : decode cX2_add 67 = .ok (.aload_n 0, 1) := dk_at bX2_add_0 37 rfl
theorem dX2_add_68 : decode cX2_add 68 = .ok (.dup, 1) := dk_at bX2_add_0 38 rfl
theorem dX2_add_69 : decode cX2_add 69 = .ok (.getfield 27, 3) := dk_at bX2_add_0 39 rfl
theorem bX2_add_72 : dk cX2_add [(72, .iconst 1, 1), (73, .iadd, 1), (74, .putfield 27, 3), (77, .aload_n 0, 1), (78, .getfield 27, 3), (81, .iconst 1, 1), (82, .isub, 1), (83, .ireturn, 1)] = true := by decide +kernel
theorem dX2_add_72 : decode cX2_add 72 = .ok (.iconst 1, 1) := dk_at bX2_add_72 0 rfl
theorem dX2_add_73 : decode cX2_add 73 = .ok (.iadd, 1) := dk_at bX2_add_72 1 rfl
theorem dX2_add_74 : decode cX2_add 74 = .ok (.putfield 27, 3) := dk_at bX2_add_72 2 rfl
theorem dX2_add_77 : decode cX2_add 77 = .ok (.aload_n 0, 1) := dk_at bX2_add_72 3 rfl
theorem dX2_add_78 : decode cX2_add 78 = .ok (.getfield 27, 3) := dk_at bX2_add_72 4 rfl
theorem dX2_add_81 : decode cX2_add 81 = .ok (.iconst 1, 1) := dk_at bX2_add_72 5 rfl
theorem dX2_add_82 : decode cX2_add 82 = .ok (.isub, 1) := dk_at bX2_add_72 6 rfl
theorem dX2_add_83 : decode cX2_add 83 = .ok (.ireturn, 1) := dk_at bX2_add_72 7 rfl
theorem bX2_crewsTold_0 : dk cX2_crewsTold [(0, .iconst 0, 1), (1, .istore_n 1, 1), (2, .iconst 0, 1), (3, .istore_n 2, 1), (4, .iload_n 2, 1), (5, .iconst 4, 1), (6, .if_icmp .ge 27, 3), (9, .iload_n 1, 1), (10, .aload_n 0, 1), (11, .getfield 31, 3), (14, .iload_n 2, 1), (15, .iaload, 1), (16, .iconst (-1), 1), (17, .if_icmp .ne 7, 3), (20, .iconst 0, 1), (21, .goto 4, 3), (24, .iconst 1, 1), (25, .iadd, 1), (26, .istore_n 1, 1), (27, .iinc 2 1, 3), (30, .goto (-26), 3), (33, .iload_n 1, 1), (34, .ireturn, 1)] = true := by decide +kernel
theorem dX2_crewsTold_0 : decode cX2_crewsTold 0 = .ok (.iconst 0, 1) := dk_at bX2_crewsTold_0 0 rfl
theorem dX2_crewsTold_1 : decode cX2_crewsTold 1 = .ok (.istore_n 1, 1) := dk_at bX2_crewsTold_0 1 rfl
theorem dX2_crewsTold_2 : decode cX2_crewsTold 2 = .ok (.iconst 0, 1) := dk_at bX2_crewsTold_0 2 rfl
theorem dX2_crewsTold_3 : decode cX2_crewsTold 3 = .ok (.istore_n 2, 1) := dk_at bX2_crewsTold_0 3 rfl
theorem dX2_crewsTold_4 : decode cX2_crewsTold 4 = .ok (.iload_n 2, 1) := dk_at bX2_crewsTold_0 4 rfl
theorem dX2_crewsTold_5 : decode cX2_crewsTold 5 = .ok (.iconst 4, 1) := dk_at bX2_crewsTold_0 5 rfl
theorem dX2_crewsTold_6 : decode cX2_crewsTold 6 = .ok (.if_icmp .ge 27, 3) := dk_at bX2_crewsTold_0 6 rfl
theorem dX2_crewsTold_9 : decode cX2_crewsTold 9 = .ok (.iload_n 1, 1) := dk_at bX2_crewsTold_0 7 rfl
theorem dX2_crewsTold_10 : decode cX2_crewsTold 10 = .ok (.aload_n 0, 1) := dk_at bX2_crewsTold_0 8 rfl
theorem dX2_crewsTold_11 : decode cX2_crewsTold 11 = .ok (.getfield 31, 3) := dk_at bX2_crewsTold_0 9 rfl
theorem dX2_crewsTold_14 : decode cX2_crewsTold 14 = .ok (.iload_n 2, 1) := dk_at bX2_crewsTold_0 10 rfl
theorem dX2_crewsTold_15 : decode cX2_crewsTold 15 = .ok (.iaload, 1) := dk_at bX2_crewsTold_0 11 rfl
theorem dX2_crewsTold_16 : decode cX2_crewsTold 16 = .ok (.iconst (-1), 1) := dk_at bX2_crewsTold_0 12 rfl
theorem dX2_crewsTold_17 : decode cX2_crewsTold 17 = .ok (.if_icmp .ne 7, 3) := dk_at bX2_crewsTold_0 13 rfl
theorem dX2_crewsTold_20 : decode cX2_crewsTold 20 = .ok (.iconst 0, 1) := dk_at bX2_crewsTold_0 14 rfl
theorem dX2_crewsTold_21 : decode cX2_crewsTold 21 = .ok (.goto 4, 3) := dk_at bX2_crewsTold_0 15 rfl
theorem dX2_crewsTold_24 : decode cX2_crewsTold 24 = .ok (.iconst 1, 1) := dk_at bX2_crewsTold_0 16 rfl
theorem dX2_crewsTold_25 : decode cX2_crewsTold 25 = .ok (.iadd, 1) := dk_at bX2_crewsTold_0 17 rfl
theorem dX2_crewsTold_26 : decode cX2_crewsTold 26 = .ok (.istore_n 1, 1) := dk_at bX2_crewsTold_0 18 rfl
theorem dX2_crewsTold_27 : decode cX2_crewsTold 27 = .ok (.iinc 2 1, 3) := dk_at bX2_crewsTold_0 19 rfl
theorem dX2_crewsTold_30 : decode cX2_crewsTold 30 = .ok (.goto (-26), 3) := dk_at bX2_crewsTold_0 20 rfl
theorem dX2_crewsTold_33 : decode cX2_crewsTold 33 = .ok (.iload_n 1, 1) := dk_at bX2_crewsTold_0 21 rfl
theorem dX2_crewsTold_34 : decode cX2_crewsTold 34 = .ok (.ireturn, 1) := dk_at bX2_crewsTold_0 22 rfl
set_option maxRecDepth 20000 in
theorem ggX2_fareTo_X11_below : GoodIn wsX2_fareTo wsX11_below := goodIn_r _ [5] rfl (by decide +kernel)
set_option maxRecDepth 20000 in
theorem gX2_fareTo_X11_below_n46 : GoodIn wsX2_fareTo (wsX11_below) := ggX2_fareTo_X11_below
theorem bX2_fareTo_0 : dk cX2_fareTo [(0, .iload_n 2, 1), (1, .bipush 10, 2), (3, .invokestatic 46, 3), (6, .ifCond .eq 22, 3), (9, .aload_n 0, 1), (10, .getfield 37, 3), (13, .iload_n 2, 1), (14, .bipush 10, 2), (16, .imul, 1), (17, .aload_n 0, 1), (18, .getfield 9, 3), (21, .iload_n 1, 1), (22, .iaload, 1), (23, .iadd, 1), (24, .iaload, 1), (25, .goto 4, 3), (28, .iconst (-1), 1), (29, .ireturn, 1)] = true := by decide +kernel
theorem dX2_fareTo_0 : decode cX2_fareTo 0 = .ok (.iload_n 2, 1) := dk_at bX2_fareTo_0 0 rfl
theorem dX2_fareTo_1 : decode cX2_fareTo 1 = .ok (.bipush 10, 2) := dk_at bX2_fareTo_0 1 rfl
theorem dX2_fareTo_3 : decode cX2_fareTo 3 = .ok (.invokestatic 46, 3) := dk_at bX2_fareTo_0 2 rfl
theorem dX2_fareTo_6 : decode cX2_fareTo 6 = .ok (.ifCond .eq 22, 3) := dk_at bX2_fareTo_0 3 rfl
theorem dX2_fareTo_9 : decode cX2_fareTo 9 = .ok (.aload_n 0, 1) := dk_at bX2_fareTo_0 4 rfl
theorem dX2_fareTo_10 : decode cX2_fareTo 10 = .ok (.getfield 37, 3) := dk_at bX2_fareTo_0 5 rfl
theorem dX2_fareTo_13 : decode cX2_fareTo 13 = .ok (.iload_n 2, 1) := dk_at bX2_fareTo_0 6 rfl
theorem dX2_fareTo_14 : decode cX2_fareTo 14 = .ok (.bipush 10, 2) := dk_at bX2_fareTo_0 7 rfl
theorem dX2_fareTo_16 : decode cX2_fareTo 16 = .ok (.imul, 1) := dk_at bX2_fareTo_0 8 rfl
theorem dX2_fareTo_17 : decode cX2_fareTo 17 = .ok (.aload_n 0, 1) := dk_at bX2_fareTo_0 9 rfl
theorem dX2_fareTo_18 : decode cX2_fareTo 18 = .ok (.getfield 9, 3) := dk_at bX2_fareTo_0 10 rfl
theorem dX2_fareTo_21 : decode cX2_fareTo 21 = .ok (.iload_n 1, 1) := dk_at bX2_fareTo_0 11 rfl
theorem dX2_fareTo_22 : decode cX2_fareTo 22 = .ok (.iaload, 1) := dk_at bX2_fareTo_0 12 rfl
theorem dX2_fareTo_23 : decode cX2_fareTo 23 = .ok (.iadd, 1) := dk_at bX2_fareTo_0 13 rfl
theorem dX2_fareTo_24 : decode cX2_fareTo 24 = .ok (.iaload, 1) := dk_at bX2_fareTo_0 14 rfl
theorem dX2_fareTo_25 : decode cX2_fareTo 25 = .ok (.goto 4, 3) := dk_at bX2_fareTo_0 15 rfl
theorem dX2_fareTo_28 : decode cX2_fareTo 28 = .ok (.iconst (-1), 1) := dk_at bX2_fareTo_0 16 rfl
theorem dX2_fareTo_29 : decode cX2_fareTo 29 = .ok (.ireturn, 1) := dk_at bX2_fareTo_0 17 rfl
set_option maxRecDepth 20000 in
theorem ggX2_startOf_X2_fareTo : GoodIn wsX2_startOf wsX2_fareTo := goodIn_r _ [12, 13, 1, 14, 15, 16, 17, 18, 19, 20, 21, 22, 23, 24, 25] rfl (by decide +kernel)
set_option maxRecDepth 20000 in
theorem gX2_startOf_X2_fareTo : GoodIn wsX2_startOf (wsV RX2 50 RX2 yX2_fareTo wsX2_fareTo) := goodIn_app (goodIn_r _ [8, 9, 10, 11] rfl (by decide +kernel)) ggX2_startOf_X2_fareTo
theorem bX2_startOf_0 : dk cX2_startOf [(0, .aload_n 0, 1), (1, .iload_n 1, 1), (2, .iload_n 2, 1), (3, .invokevirtual 50, 3), (6, .iconst (-1), 1), (7, .if_icmp .ne 5, 3), (10, .iconst (-1), 1), (11, .ireturn, 1), (12, .iload_n 2, 1), (13, .aload_n 0, 1), (14, .getfield 9, 3), (17, .iload_n 1, 1), (18, .iaload, 1), (19, .if_icmp .ne 7, 3), (22, .iload_n 3, 1), (23, .goto 6, 3), (26, .iload_n 3, 1), (27, .iconst 1, 1), (28, .iadd, 1), (29, .istore 4, 2), (31, .iload 4, 2), (33, .aload_n 0, 1), (34, .getfield 21, 3), (37, .iload_n 1, 1), (38, .iaload, 1), (39, .invokestatic 54, 3), (42, .istore 5, 2), (44, .iload 5, 2), (46, .aload_n 0, 1), (47, .getfield 24, 3), (50, .iload_n 1, 1), (51, .iaload, 1), (52, .if_icmp .gt 8, 3), (55, .iload 5, 2), (57, .goto 4, 3), (60, .iconst (-1), 1), (61, .ireturn, 1)] = true := by decide +kernel
theorem dX2_startOf_0 : decode cX2_startOf 0 = .ok (.aload_n 0, 1) := dk_at bX2_startOf_0 0 rfl
theorem dX2_startOf_1 : decode cX2_startOf 1 = .ok (.iload_n 1, 1) := dk_at bX2_startOf_0 1 rfl
theorem dX2_startOf_2 : decode cX2_startOf 2 = .ok (.iload_n 2, 1) := dk_at bX2_startOf_0 2 rfl
theorem dX2_startOf_3 : decode cX2_startOf 3 = .ok (.invokevirtual 50, 3) := dk_at bX2_startOf_0 3 rfl
theorem dX2_startOf_6 : decode cX2_startOf 6 = .ok (.iconst (-1), 1) := dk_at bX2_startOf_0 4 rfl
theorem dX2_startOf_7 : decode cX2_startOf 7 = .ok (.if_icmp .ne 5, 3) := dk_at bX2_startOf_0 5 rfl
theorem dX2_startOf_10 : decode cX2_startOf 10 = .ok (.iconst (-1), 1) := dk_at bX2_startOf_0 6 rfl
theorem dX2_startOf_11 : decode cX2_startOf 11 = .ok (.ireturn, 1) := dk_at bX2_startOf_0 7 rfl
theorem dX2_startOf_12 : decode cX2_startOf 12 = .ok (.iload_n 2, 1) := dk_at bX2_startOf_0 8 rfl
theorem dX2_startOf_13 : decode cX2_startOf 13 = .ok (.aload_n 0, 1) := dk_at bX2_startOf_0 9 rfl
theorem dX2_startOf_14 : decode cX2_startOf 14 = .ok (.getfield 9, 3) := dk_at bX2_startOf_0 10 rfl
theorem dX2_startOf_17 : decode cX2_startOf 17 = .ok (.iload_n 1, 1) := dk_at bX2_startOf_0 11 rfl
theorem dX2_startOf_18 : decode cX2_startOf 18 = .ok (.iaload, 1) := dk_at bX2_startOf_0 12 rfl
theorem dX2_startOf_19 : decode cX2_startOf 19 = .ok (.if_icmp .ne 7, 3) := dk_at bX2_startOf_0 13 rfl
theorem dX2_startOf_22 : decode cX2_startOf 22 = .ok (.iload_n 3, 1) := dk_at bX2_startOf_0 14 rfl
theorem dX2_startOf_23 : decode cX2_startOf 23 = .ok (.goto 6, 3) := dk_at bX2_startOf_0 15 rfl
theorem dX2_startOf_26 : decode cX2_startOf 26 = .ok (.iload_n 3, 1) := dk_at bX2_startOf_0 16 rfl
theorem dX2_startOf_27 : decode cX2_startOf 27 = .ok (.iconst 1, 1) := dk_at bX2_startOf_0 17 rfl
theorem dX2_startOf_28 : decode cX2_startOf 28 = .ok (.iadd, 1) := dk_at bX2_startOf_0 18 rfl
theorem dX2_startOf_29 : decode cX2_startOf 29 = .ok (.istore 4, 2) := dk_at bX2_startOf_0 19 rfl
theorem dX2_startOf_31 : decode cX2_startOf 31 = .ok (.iload 4, 2) := dk_at bX2_startOf_0 20 rfl
theorem dX2_startOf_33 : decode cX2_startOf 33 = .ok (.aload_n 0, 1) := dk_at bX2_startOf_0 21 rfl
theorem dX2_startOf_34 : decode cX2_startOf 34 = .ok (.getfield 21, 3) := dk_at bX2_startOf_0 22 rfl
theorem dX2_startOf_37 : decode cX2_startOf 37 = .ok (.iload_n 1, 1) := dk_at bX2_startOf_0 23 rfl
theorem dX2_startOf_38 : decode cX2_startOf 38 = .ok (.iaload, 1) := dk_at bX2_startOf_0 24 rfl
theorem dX2_startOf_39 : decode cX2_startOf 39 = .ok (.invokestatic 54, 3) := dk_at bX2_startOf_0 25 rfl
theorem dX2_startOf_42 : decode cX2_startOf 42 = .ok (.istore 5, 2) := dk_at bX2_startOf_0 26 rfl
theorem dX2_startOf_44 : decode cX2_startOf 44 = .ok (.iload 5, 2) := dk_at bX2_startOf_0 27 rfl
theorem dX2_startOf_46 : decode cX2_startOf 46 = .ok (.aload_n 0, 1) := dk_at bX2_startOf_0 28 rfl
theorem dX2_startOf_47 : decode cX2_startOf 47 = .ok (.getfield 24, 3) := dk_at bX2_startOf_0 29 rfl
theorem dX2_startOf_50 : decode cX2_startOf 50 = .ok (.iload_n 1, 1) := dk_at bX2_startOf_0 30 rfl
theorem dX2_startOf_51 : decode cX2_startOf 51 = .ok (.iaload, 1) := dk_at bX2_startOf_0 31 rfl
theorem dX2_startOf_52 : decode cX2_startOf 52 = .ok (.if_icmp .gt 8, 3) := dk_at bX2_startOf_0 32 rfl
theorem dX2_startOf_55 : decode cX2_startOf 55 = .ok (.iload 5, 2) := dk_at bX2_startOf_0 33 rfl
theorem dX2_startOf_57 : decode cX2_startOf 57 = .ok (.goto 4, 3) := dk_at bX2_startOf_0 34 rfl
theorem dX2_startOf_60 : decode cX2_startOf 60 = .ok (.iconst (-1), 1) := dk_at bX2_startOf_0 35 rfl
theorem dX2_startOf_61 : decode cX2_startOf 61 = .ok (.ireturn, 1) := dk_at bX2_startOf_0 36 rfl
theorem bX3_init_0 : dk cX3_init [(0, .aload_n 0, 1), (1, .invokespecial 3, 3), (4, .aload_n 0, 1), (5, .sipush 512, 3), (8, .newarray .int, 2), (10, .putfield 9, 3), (13, .aload_n 0, 1), (14, .sipush 512, 3), (17, .newarray .int, 2), (19, .putfield 15, 3), (22, .aload_n 0, 1), (23, .sipush 896, 3), (26, .newarray .int, 2), (28, .putfield 18, 3), (31, .aload_n 0, 1), (32, .sipush 896, 3), (35, .newarray .int, 2), (37, .putfield 21, 3), (40, .aload_n 0, 1), (41, .aload_n 1, 1), (42, .putfield 24, 3), (45, .return_, 1)] = true := by decide +kernel
theorem dX3_init_0 : decode cX3_init 0 = .ok (.aload_n 0, 1) := dk_at bX3_init_0 0 rfl
theorem dX3_init_1 : decode cX3_init 1 = .ok (.invokespecial 3, 3) := dk_at bX3_init_0 1 rfl
theorem dX3_init_4 : decode cX3_init 4 = .ok (.aload_n 0, 1) := dk_at bX3_init_0 2 rfl
theorem dX3_init_5 : decode cX3_init 5 = .ok (.sipush 512, 3) := dk_at bX3_init_0 3 rfl
theorem dX3_init_8 : decode cX3_init 8 = .ok (.newarray .int, 2) := dk_at bX3_init_0 4 rfl
theorem dX3_init_10 : decode cX3_init 10 = .ok (.putfield 9, 3) := dk_at bX3_init_0 5 rfl
theorem dX3_init_13 : decode cX3_init 13 = .ok (.aload_n 0, 1) := dk_at bX3_init_0 6 rfl
theorem dX3_init_14 : decode cX3_init 14 = .ok (.sipush 512, 3) := dk_at bX3_init_0 7 rfl
theorem dX3_init_17 : decode cX3_init 17 = .ok (.newarray .int, 2) := dk_at bX3_init_0 8 rfl
theorem dX3_init_19 : decode cX3_init 19 = .ok (.putfield 15, 3) := dk_at bX3_init_0 9 rfl
theorem dX3_init_22 : decode cX3_init 22 = .ok (.aload_n 0, 1) := dk_at bX3_init_0 10 rfl
theorem dX3_init_23 : decode cX3_init 23 = .ok (.sipush 896, 3) := dk_at bX3_init_0 11 rfl
theorem dX3_init_26 : decode cX3_init 26 = .ok (.newarray .int, 2) := dk_at bX3_init_0 12 rfl
theorem dX3_init_28 : decode cX3_init 28 = .ok (.putfield 18, 3) := dk_at bX3_init_0 13 rfl
theorem dX3_init_31 : decode cX3_init 31 = .ok (.aload_n 0, 1) := dk_at bX3_init_0 14 rfl
theorem dX3_init_32 : decode cX3_init 32 = .ok (.sipush 896, 3) := dk_at bX3_init_0 15 rfl
theorem dX3_init_35 : decode cX3_init 35 = .ok (.newarray .int, 2) := dk_at bX3_init_0 16 rfl
theorem dX3_init_37 : decode cX3_init 37 = .ok (.putfield 21, 3) := dk_at bX3_init_0 17 rfl
theorem dX3_init_40 : decode cX3_init 40 = .ok (.aload_n 0, 1) := dk_at bX3_init_0 18 rfl
theorem dX3_init_41 : decode cX3_init 41 = .ok (.aload_n 1, 1) := dk_at bX3_init_0 19 rfl
theorem dX3_init_42 : decode cX3_init 42 = .ok (.putfield 24, 3) := dk_at bX3_init_0 20 rfl
theorem dX3_init_45 : decode cX3_init 45 = .ok (.return_, 1) := dk_at bX3_init_0 21 rfl
set_option maxRecDepth 20000 in
theorem ggX3_search_J7_fill_53178 : GoodIn wsX3_search wsJ7_fill_53178 := goodIn_r _ [11] rfl (by decide +kernel)
set_option maxRecDepth 20000 in
theorem gX3_search_J7_fill_53178 : GoodIn wsX3_search (va_wsS RX3 29 yJ7_fill_53178 wsJ7_fill_53178) := goodIn_app (goodIn_r _ [8, 9, 10] rfl (by decide +kernel)) ggX3_search_J7_fill_53178
set_option maxRecDepth 20000 in
theorem ggX3_search_X3_extend : GoodIn wsX3_search wsX3_extend := goodIn_r _ [16, 5, 17, 18, 19, 20, 21, 22, 23, 24, 25, 26, 27, 28, 29, 30, 31, 32, 33, 34, 35, 36, 37, 38, 39, 40, 41, 42, 43, 15, 44, 2, 4, 45, 46, 47, 48, 1, 49, 12, 13, 14, 50, 51, 52, 53, 54, 55, 56, 57, 58, 59, 60, 61, 62, 63] rfl (by decide +kernel)
set_option maxRecDepth 20000 in
theorem gX3_search_X3_extend : GoodIn wsX3_search (wsV RX3 43 RX3 yX3_extend wsX3_extend) := goodIn_app (goodIn_r _ [12, 13, 14, 15] rfl (by decide +kernel)) ggX3_search_X3_extend
theorem bX3_search_0 : dk cX3_search [(0, .iconst 0, 1), (1, .istore_n 2, 1), (2, .iload_n 2, 1), (3, .sipush 128, 3), (6, .if_icmp .ge 22, 3), (9, .aload_n 0, 1), (10, .getfield 9, 3), (13, .iload_n 1, 1), (14, .sipush 128, 3), (17, .imul, 1), (18, .iload_n 2, 1), (19, .iadd, 1), (20, .iconst (-1), 1), (21, .iastore, 1), (22, .iinc 2 1, 3), (25, .goto (-23), 3), (28, .aload_n 0, 1), (29, .getfield 18, 3), (32, .ldc 28, 2), (34, .invokestatic 29, 3), (37, .aload_n 0, 1), (38, .getfield 21, 3), (41, .ldc 28, 2), (43, .invokestatic 29, 3), (46, .aload_n 0, 1), (47, .iload_n 1, 1), (48, .iconst 0, 1), (49, .iconst 0, 1), (50, .aload_n 0, 1), (51, .getfield 24, 3), (54, .getfield 35, 3), (57, .iload_n 1, 1), (58, .iaload, 1), (59, .aload_n 0, 1), (60, .getfield 24, 3), (63, .getfield 40, 3), (66, .iload_n 1, 1), (67, .iaload, 1), (68, .iconst 0, 1), (69, .iconst 0, 1)] = true := by decide +kernel
theorem dX3_search_0 : decode cX3_search 0 = .ok (.iconst 0, 1) := dk_at bX3_search_0 0 rfl
theorem dX3_search_1 : decode cX3_search 1 = .ok (.istore_n 2, 1) := dk_at bX3_search_0 1 rfl
theorem dX3_search_2 : decode cX3_search 2 = .ok (.iload_n 2, 1) := dk_at bX3_search_0 2 rfl
theorem dX3_search_3 : decode cX3_search 3 = .ok (.sipush 128, 3) := dk_at bX3_search_0 3 rfl
theorem dX3_search_6 : decode cX3_search 6 = .ok (.if_icmp .ge 22, 3) := dk_at bX3_search_0 4 rfl
theorem dX3_search_9 : decode cX3_search 9 = .ok (.aload_n 0, 1) := dk_at bX3_search_0 5 rfl
theorem dX3_search_10 : decode cX3_search 10 = .ok (.getfield 9, 3) := dk_at bX3_search_0 6 rfl
theorem dX3_search_13 : decode cX3_search 13 = .ok (.iload_n 1, 1) := dk_at bX3_search_0 7 rfl
theorem dX3_search_14 : decode cX3_search 14 = .ok (.sipush 128, 3) := dk_at bX3_search_0 8 rfl
theorem dX3_search_17 : decode cX3_search 17 = .ok (.imul, 1) := dk_at bX3_search_0 9 rfl
theorem dX3_search_18 : decode cX3_search 18 = .ok (.iload_n 2, 1) := dk_at bX3_search_0 10 rfl
theorem dX3_search_19 : decode cX3_search 19 = .ok (.iadd, 1) := dk_at bX3_search_0 11 rfl
theorem dX3_search_20 : decode cX3_search 20 = .ok (.iconst (-1), 1) := dk_at bX3_search_0 12 rfl
theorem dX3_search_21 : decode cX3_search 21 = .ok (.iastore, 1) := dk_at bX3_search_0 13 rfl
theorem dX3_search_22 : decode cX3_search 22 = .ok (.iinc 2 1, 3) := dk_at bX3_search_0 14 rfl
theorem dX3_search_25 : decode cX3_search 25 = .ok (.goto (-23), 3) := dk_at bX3_search_0 15 rfl
theorem dX3_search_28 : decode cX3_search 28 = .ok (.aload_n 0, 1) := dk_at bX3_search_0 16 rfl
theorem dX3_search_29 : decode cX3_search 29 = .ok (.getfield 18, 3) := dk_at bX3_search_0 17 rfl
theorem dX3_search_32 : decode cX3_search 32 = .ok (.ldc 28, 2) := dk_at bX3_search_0 18 rfl
theorem dX3_search_34 : decode cX3_search 34 = .ok (.invokestatic 29, 3) := dk_at bX3_search_0 19 rfl
theorem dX3_search_37 : decode cX3_search 37 = .ok (.aload_n 0, 1) := dk_at bX3_search_0 20 rfl
theorem dX3_search_38 : decode cX3_search 38 = .ok (.getfield 21, 3) := dk_at bX3_search_0 21 rfl
theorem dX3_search_41 : decode cX3_search 41 = .ok (.ldc 28, 2) := dk_at bX3_search_0 22 rfl
theorem dX3_search_43 : decode cX3_search 43 = .ok (.invokestatic 29, 3) := dk_at bX3_search_0 23 rfl
theorem dX3_search_46 : decode cX3_search 46 = .ok (.aload_n 0, 1) := dk_at bX3_search_0 24 rfl
theorem dX3_search_47 : decode cX3_search 47 = .ok (.iload_n 1, 1) := dk_at bX3_search_0 25 rfl
theorem dX3_search_48 : decode cX3_search 48 = .ok (.iconst 0, 1) := dk_at bX3_search_0 26 rfl
theorem dX3_search_49 : decode cX3_search 49 = .ok (.iconst 0, 1) := dk_at bX3_search_0 27 rfl
theorem dX3_search_50 : decode cX3_search 50 = .ok (.aload_n 0, 1) := dk_at bX3_search_0 28 rfl
theorem dX3_search_51 : decode cX3_search 51 = .ok (.getfield 24, 3) := dk_at bX3_search_0 29 rfl
theorem dX3_search_54 : decode cX3_search 54 = .ok (.getfield 35, 3) := dk_at bX3_search_0 30 rfl
theorem dX3_search_57 : decode cX3_search 57 = .ok (.iload_n 1, 1) := dk_at bX3_search_0 31 rfl
theorem dX3_search_58 : decode cX3_search 58 = .ok (.iaload, 1) := dk_at bX3_search_0 32 rfl
theorem dX3_search_59 : decode cX3_search 59 = .ok (.aload_n 0, 1) := dk_at bX3_search_0 33 rfl
theorem dX3_search_60 : decode cX3_search 60 = .ok (.getfield 24, 3) := dk_at bX3_search_0 34 rfl
theorem dX3_search_63 : decode cX3_search 63 = .ok (.getfield 40, 3) := dk_at bX3_search_0 35 rfl
theorem dX3_search_66 : decode cX3_search 66 = .ok (.iload_n 1, 1) := dk_at bX3_search_0 36 rfl
theorem dX3_search_67 : decode cX3_search 67 = .ok (.iaload, 1) := dk_at bX3_search_0 37 rfl
theorem dX3_search_68 : decode cX3_search 68 = .ok (.iconst 0, 1) := dk_at bX3_search_0 38 rfl
theorem dX3_search_69 : decode cX3_search 69 = .ok (.iconst 0, 1) := dk_at bX3_search_0 39 rfl
theorem bX3_search_70 : dk cX3_search [(70, .invokevirtual 43, 3), (73, .return_, 1)] = true := by decide +kernel
theorem dX3_search_70 : decode cX3_search 70 = .ok (.invokevirtual 43, 3) := dk_at bX3_search_70 0 rfl
theorem dX3_search_73 : decode cX3_search 73 = .ok (.return_, 1) := dk_at bX3_search_70 1 rfl
set_option maxRecDepth 20000 in
theorem ggX3_extend_X2_startOf : GoodIn wsX3_extend wsX2_startOf := goodIn_r _ [9, 10, 11, 12, 13, 14, 15, 16, 17, 18, 19, 8, 20, 21, 22, 23, 24, 47, 48, 49, 50, 51, 52, 53, 54, 55] rfl (by decide +kernel)
set_option maxRecDepth 20000 in
theorem gX3_extend_X2_startOf : GoodIn wsX3_extend (wsV RX3 51 RX2 yX2_startOf wsX2_startOf) := goodIn_app (goodIn_r _ [5, 6, 7, 8] rfl (by decide +kernel)) ggX3_extend_X2_startOf
set_option maxRecDepth 20000 in
theorem ggX3_extend_X2_fareTo : GoodIn wsX3_extend wsX2_fareTo := goodIn_r _ [20, 21, 10, 22, 23, 24, 47, 48, 49, 50, 51, 52, 53, 54, 55] rfl (by decide +kernel)
set_option maxRecDepth 20000 in
theorem gX3_extend_X2_fareTo : GoodIn wsX3_extend (wsV RX3 58 RX2 yX2_fareTo wsX2_fareTo) := goodIn_app (goodIn_r _ [25, 18, 19, 8] rfl (by decide +kernel)) ggX3_extend_X2_fareTo
set_option maxRecDepth 20000 in
theorem ggX3_extend_X3_outdone : GoodIn wsX3_extend wsX3_outdone := goodIn_r _ [30, 31, 32, 42, 43, 44, 45, 46] rfl (by decide +kernel)
set_option maxRecDepth 20000 in
theorem gX3_extend_X3_outdone : GoodIn wsX3_extend (wsV RX3 62 RX3 yX3_outdone wsX3_outdone) := goodIn_app (goodIn_r _ [26, 27, 28, 29] rfl (by decide +kernel)) ggX3_extend_X3_outdone
set_option maxRecDepth 20000 in
theorem ggX3_extend_X3_keep : GoodIn wsX3_extend wsX3_keep := goodIn_r _ [36, 37, 38, 42, 43, 44, 45, 46] rfl (by decide +kernel)
set_option maxRecDepth 20000 in
theorem gX3_extend_X3_keep : GoodIn wsX3_extend (wsV RX3 66 RX3 yX3_keep wsX3_keep) := goodIn_app (goodIn_r _ [33, 34, 35, 29] rfl (by decide +kernel)) ggX3_extend_X3_keep
set_option maxRecDepth 20000 in
theorem ggX3_extend_X3_extend : GoodIn wsX3_extend wsX3_extend := goodIn_r _ [0, 1, 2, 3, 4, 5, 6, 7, 8, 9, 10, 11, 12, 13, 14, 15, 16, 17, 18, 19, 20, 21, 22, 23, 24, 25, 26, 27, 28, 29, 30, 31, 32, 33, 34, 35, 36, 37, 38, 39, 40, 41, 42, 43, 44, 45, 46, 47, 48, 49, 50, 51, 52, 53, 54, 55] rfl (by decide +kernel)
set_option maxRecDepth 20000 in
theorem gX3_extend_X3_extend : GoodIn wsX3_extend (wsV RX3 43 RX3 yX3_extend wsX3_extend) := goodIn_app (goodIn_r _ [39, 40, 41, 29] rfl (by decide +kernel)) ggX3_extend_X3_extend
theorem bX3_extend_0 : dk cX3_extend [(0, .iload_n 2, 1), (1, .bipush 7, 2), (3, .if_icmp .lt 4, 3), (6, .return_, 1), (7, .iconst 0, 1), (8, .istore 8, 2), (10, .iload 8, 2), (12, .aload_n 0, 1), (13, .getfield 24, 3), (16, .getfield 47, 3), (19, .if_icmp .ge 166, 3), (22, .iload 8, 2), (24, .bipush 7, 2), (26, .if_icmp .ge 159, 3), (29, .iload_n 3, 1), (30, .iload 8, 2), (32, .ishr, 1), (33, .iconst 1, 1), (34, .iand, 1), (35, .ifCond .eq 7, 3), (38, .iconst (-1), 1), (39, .goto 16, 3), (42, .aload_n 0, 1), (43, .getfield 24, 3), (46, .iload 8, 2), (48, .iload 4, 2), (50, .iload 5, 2), (52, .invokevirtual 51, 3), (55, .istore 9, 2), (57, .iload 9, 2), (59, .iconst (-1), 1), (60, .if_icmp .eq 119, 3), (63, .iload 9, 2), (65, .aload_n 0, 1), (66, .getfield 24, 3), (69, .getfield 55, 3), (72, .iload 8, 2), (74, .iaload, 1), (75, .iadd, 1), (76, .istore 10, 2)] = true := by decide +kernel
theorem dX3_extend_0 : decode cX3_extend 0 = .ok (.iload_n 2, 1) := dk_at bX3_extend_0 0 rfl
theorem dX3_extend_1 : decode cX3_extend 1 = .ok (.bipush 7, 2) := dk_at bX3_extend_0 1 rfl
theorem dX3_extend_3 : decode cX3_extend 3 = .ok (.if_icmp .lt 4, 3) := dk_at bX3_extend_0 2 rfl
theorem dX3_extend_6 : decode cX3_extend 6 = .ok (.return_, 1) := dk_at bX3_extend_0 3 rfl
theorem dX3_extend_7 : decode cX3_extend 7 = .ok (.iconst 0, 1) := dk_at bX3_extend_0 4 rfl
theorem dX3_extend_8 : decode cX3_extend 8 = .ok (.istore 8, 2) := dk_at bX3_extend_0 5 rfl
theorem dX3_extend_10 : decode cX3_extend 10 = .ok (.iload 8, 2) := dk_at bX3_extend_0 6 rfl
theorem dX3_extend_12 : decode cX3_extend 12 = .ok (.aload_n 0, 1) := dk_at bX3_extend_0 7 rfl
theorem dX3_extend_13 : decode cX3_extend 13 = .ok (.getfield 24, 3) := dk_at bX3_extend_0 8 rfl
theorem dX3_extend_16 : decode cX3_extend 16 = .ok (.getfield 47, 3) := dk_at bX3_extend_0 9 rfl
theorem dX3_extend_19 : decode cX3_extend 19 = .ok (.if_icmp .ge 166, 3) := dk_at bX3_extend_0 10 rfl
theorem dX3_extend_22 : decode cX3_extend 22 = .ok (.iload 8, 2) := dk_at bX3_extend_0 11 rfl
theorem dX3_extend_24 : decode cX3_extend 24 = .ok (.bipush 7, 2) := dk_at bX3_extend_0 12 rfl
theorem dX3_extend_26 : decode cX3_extend 26 = .ok (.if_icmp .ge 159, 3) := dk_at bX3_extend_0 13 rfl
theorem dX3_extend_29 : decode cX3_extend 29 = .ok (.iload_n 3, 1) := dk_at bX3_extend_0 14 rfl
theorem dX3_extend_30 : decode cX3_extend 30 = .ok (.iload 8, 2) := dk_at bX3_extend_0 15 rfl
theorem dX3_extend_32 : decode cX3_extend 32 = .ok (.ishr, 1) := dk_at bX3_extend_0 16 rfl
theorem dX3_extend_33 : decode cX3_extend 33 = .ok (.iconst 1, 1) := dk_at bX3_extend_0 17 rfl
theorem dX3_extend_34 : decode cX3_extend 34 = .ok (.iand, 1) := dk_at bX3_extend_0 18 rfl
theorem dX3_extend_35 : decode cX3_extend 35 = .ok (.ifCond .eq 7, 3) := dk_at bX3_extend_0 19 rfl
theorem dX3_extend_38 : decode cX3_extend 38 = .ok (.iconst (-1), 1) := dk_at bX3_extend_0 20 rfl
theorem dX3_extend_39 : decode cX3_extend 39 = .ok (.goto 16, 3) := dk_at bX3_extend_0 21 rfl
theorem dX3_extend_42 : decode cX3_extend 42 = .ok (.aload_n 0, 1) := dk_at bX3_extend_0 22 rfl
theorem dX3_extend_43 : decode cX3_extend 43 = .ok (.getfield 24, 3) := dk_at bX3_extend_0 23 rfl
theorem dX3_extend_46 : decode cX3_extend 46 = .ok (.iload 8, 2) := dk_at bX3_extend_0 24 rfl
theorem dX3_extend_48 : decode cX3_extend 48 = .ok (.iload 4, 2) := dk_at bX3_extend_0 25 rfl
theorem dX3_extend_50 : decode cX3_extend 50 = .ok (.iload 5, 2) := dk_at bX3_extend_0 26 rfl
theorem dX3_extend_52 : decode cX3_extend 52 = .ok (.invokevirtual 51, 3) := dk_at bX3_extend_0 27 rfl
theorem dX3_extend_55 : decode cX3_extend 55 = .ok (.istore 9, 2) := dk_at bX3_extend_0 28 rfl
theorem dX3_extend_57 : decode cX3_extend 57 = .ok (.iload 9, 2) := dk_at bX3_extend_0 29 rfl
theorem dX3_extend_59 : decode cX3_extend 59 = .ok (.iconst (-1), 1) := dk_at bX3_extend_0 30 rfl
theorem dX3_extend_60 : decode cX3_extend 60 = .ok (.if_icmp .eq 119, 3) := dk_at bX3_extend_0 31 rfl
theorem dX3_extend_63 : decode cX3_extend 63 = .ok (.iload 9, 2) := dk_at bX3_extend_0 32 rfl
theorem dX3_extend_65 : decode cX3_extend 65 = .ok (.aload_n 0, 1) := dk_at bX3_extend_0 33 rfl
theorem dX3_extend_66 : decode cX3_extend 66 = .ok (.getfield 24, 3) := dk_at bX3_extend_0 34 rfl
theorem dX3_extend_69 : decode cX3_extend 69 = .ok (.getfield 55, 3) := dk_at bX3_extend_0 35 rfl
theorem dX3_extend_72 : decode cX3_extend 72 = .ok (.iload 8, 2) := dk_at bX3_extend_0 36 rfl
theorem dX3_extend_74 : decode cX3_extend 74 = .ok (.iaload, 1) := dk_at bX3_extend_0 37 rfl
theorem dX3_extend_75 : decode cX3_extend 75 = .ok (.iadd, 1) := dk_at bX3_extend_0 38 rfl
theorem dX3_extend_76 : decode cX3_extend 76 = .ok (.istore 10, 2) := dk_at bX3_extend_0 39 rfl
theorem bX3_extend_78 : dk cX3_extend [(78, .iload 6, 2), (80, .aload_n 0, 1), (81, .getfield 24, 3), (84, .iload 8, 2), (86, .iload 4, 2), (88, .invokevirtual 58, 3), (91, .iadd, 1), (92, .istore 11, 2), (94, .iload_n 3, 1), (95, .iconst 1, 1), (96, .iload 8, 2), (98, .ishl, 1), (99, .ior, 1), (100, .istore 12, 2), (102, .aload_n 0, 1), (103, .iload 12, 2), (105, .bipush 7, 2), (107, .imul, 1), (108, .iload 8, 2), (110, .iadd, 1), (111, .iload 10, 2), (113, .iload 11, 2), (115, .invokevirtual 62, 3), (118, .ifCond .ne 61, 3), (121, .aload_n 0, 1), (122, .iload_n 1, 1), (123, .sipush 128, 3), (126, .imul, 1), (127, .iload 12, 2), (129, .iadd, 1), (130, .iload 11, 2), (132, .iload 7, 2), (134, .bipush 8, 2), (136, .imul, 1), (137, .iload 8, 2), (139, .iadd, 1), (140, .iconst 1, 1), (141, .iadd, 1), (142, .invokevirtual 66, 3), (145, .aload_n 0, 1)] = true := by decide +kernel
theorem dX3_extend_78 : decode cX3_extend 78 = .ok (.iload 6, 2) := dk_at bX3_extend_78 0 rfl
theorem dX3_extend_80 : decode cX3_extend 80 = .ok (.aload_n 0, 1) := dk_at bX3_extend_78 1 rfl
theorem dX3_extend_81 : decode cX3_extend 81 = .ok (.getfield 24, 3) := dk_at bX3_extend_78 2 rfl
theorem dX3_extend_84 : decode cX3_extend 84 = .ok (.iload 8, 2) := dk_at bX3_extend_78 3 rfl
theorem dX3_extend_86 : decode cX3_extend 86 = .ok (.iload 4, 2) := dk_at bX3_extend_78 4 rfl
theorem dX3_extend_88 : decode cX3_extend 88 = .ok (.invokevirtual 58, 3) := dk_at bX3_extend_78 5 rfl
theorem dX3_extend_91 : decode cX3_extend 91 = .ok (.iadd, 1) := dk_at bX3_extend_78 6 rfl
theorem dX3_extend_92 : decode cX3_extend 92 = .ok (.istore 11, 2) := dk_at bX3_extend_78 7 rfl
theorem dX3_extend_94 : decode cX3_extend 94 = .ok (.iload_n 3, 1) := dk_at bX3_extend_78 8 rfl
theorem dX3_extend_95 : decode cX3_extend 95 = .ok (.iconst 1, 1) := dk_at bX3_extend_78 9 rfl
theorem dX3_extend_96 : decode cX3_extend 96 = .ok (.iload 8, 2) := dk_at bX3_extend_78 10 rfl
theorem dX3_extend_98 : decode cX3_extend 98 = .ok (.ishl, 1) := dk_at bX3_extend_78 11 rfl
theorem dX3_extend_99 : decode cX3_extend 99 = .ok (.ior, 1) := dk_at bX3_extend_78 12 rfl
theorem dX3_extend_100 : decode cX3_extend 100 = .ok (.istore 12, 2) := dk_at bX3_extend_78 13 rfl
theorem dX3_extend_102 : decode cX3_extend 102 = .ok (.aload_n 0, 1) := dk_at bX3_extend_78 14 rfl
theorem dX3_extend_103 : decode cX3_extend 103 = .ok (.iload 12, 2) := dk_at bX3_extend_78 15 rfl
theorem dX3_extend_105 : decode cX3_extend 105 = .ok (.bipush 7, 2) := dk_at bX3_extend_78 16 rfl
theorem dX3_extend_107 : decode cX3_extend 107 = .ok (.imul, 1) := dk_at bX3_extend_78 17 rfl
theorem dX3_extend_108 : decode cX3_extend 108 = .ok (.iload 8, 2) := dk_at bX3_extend_78 18 rfl
theorem dX3_extend_110 : decode cX3_extend 110 = .ok (.iadd, 1) := dk_at bX3_extend_78 19 rfl
theorem dX3_extend_111 : decode cX3_extend 111 = .ok (.iload 10, 2) := dk_at bX3_extend_78 20 rfl
theorem dX3_extend_113 : decode cX3_extend 113 = .ok (.iload 11, 2) := dk_at bX3_extend_78 21 rfl
theorem dX3_extend_115 : decode cX3_extend 115 = .ok (.invokevirtual 62, 3) := dk_at bX3_extend_78 22 rfl
theorem dX3_extend_118 : decode cX3_extend 118 = .ok (.ifCond .ne 61, 3) := dk_at bX3_extend_78 23 rfl
theorem dX3_extend_121 : decode cX3_extend 121 = .ok (.aload_n 0, 1) := dk_at bX3_extend_78 24 rfl
theorem dX3_extend_122 : decode cX3_extend 122 = .ok (.iload_n 1, 1) := dk_at bX3_extend_78 25 rfl
theorem dX3_extend_123 : decode cX3_extend 123 = .ok (.sipush 128, 3) := dk_at bX3_extend_78 26 rfl
theorem dX3_extend_126 : decode cX3_extend 126 = .ok (.imul, 1) := dk_at bX3_extend_78 27 rfl
theorem dX3_extend_127 : decode cX3_extend 127 = .ok (.iload 12, 2) := dk_at bX3_extend_78 28 rfl
theorem dX3_extend_129 : decode cX3_extend 129 = .ok (.iadd, 1) := dk_at bX3_extend_78 29 rfl
theorem dX3_extend_130 : decode cX3_extend 130 = .ok (.iload 11, 2) := dk_at bX3_extend_78 30 rfl
theorem dX3_extend_132 : decode cX3_extend 132 = .ok (.iload 7, 2) := dk_at bX3_extend_78 31 rfl
theorem dX3_extend_134 : decode cX3_extend 134 = .ok (.bipush 8, 2) := dk_at bX3_extend_78 32 rfl
theorem dX3_extend_136 : decode cX3_extend 136 = .ok (.imul, 1) := dk_at bX3_extend_78 33 rfl
theorem dX3_extend_137 : decode cX3_extend 137 = .ok (.iload 8, 2) := dk_at bX3_extend_78 34 rfl
theorem dX3_extend_139 : decode cX3_extend 139 = .ok (.iadd, 1) := dk_at bX3_extend_78 35 rfl
theorem dX3_extend_140 : decode cX3_extend 140 = .ok (.iconst 1, 1) := dk_at bX3_extend_78 36 rfl
theorem dX3_extend_141 : decode cX3_extend 141 = .ok (.iadd, 1) := dk_at bX3_extend_78 37 rfl
theorem dX3_extend_142 : decode cX3_extend 142 = .ok (.invokevirtual 66, 3) := dk_at bX3_extend_78 38 rfl
theorem dX3_extend_145 : decode cX3_extend 145 = .ok (.aload_n 0, 1) := dk_at bX3_extend_78 39 rfl
theorem bX3_extend_146 : dk cX3_extend [(146, .iload_n 1, 1), (147, .iload_n 2, 1), (148, .iconst 1, 1), (149, .iadd, 1), (150, .iload 12, 2), (152, .aload_n 0, 1), (153, .getfield 24, 3), (156, .getfield 70, 3), (159, .iload 8, 2), (161, .iaload, 1), (162, .iload 10, 2), (164, .iload 11, 2), (166, .iload 7, 2), (168, .bipush 8, 2), (170, .imul, 1), (171, .iload 8, 2), (173, .iadd, 1), (174, .iconst 1, 1), (175, .iadd, 1), (176, .invokevirtual 43, 3), (179, .iinc 8 1, 3), (182, .goto (-172), 3), (185, .return_, 1)] = true := by decide +kernel
theorem dX3_extend_146 : decode cX3_extend 146 = .ok (.iload_n 1, 1) := dk_at bX3_extend_146 0 rfl
theorem dX3_extend_147 : decode cX3_extend 147 = .ok (.iload_n 2, 1) := dk_at bX3_extend_146 1 rfl
theorem dX3_extend_148 : decode cX3_extend 148 = .ok (.iconst 1, 1) := dk_at bX3_extend_146 2 rfl
theorem dX3_extend_149 : decode cX3_extend 149 = .ok (.iadd, 1) := dk_at bX3_extend_146 3 rfl
theorem dX3_extend_150 : decode cX3_extend 150 = .ok (.iload 12, 2) := dk_at bX3_extend_146 4 rfl
theorem dX3_extend_152 : decode cX3_extend 152 = .ok (.aload_n 0, 1) := dk_at bX3_extend_146 5 rfl
theorem dX3_extend_153 : decode cX3_extend 153 = .ok (.getfield 24, 3) := dk_at bX3_extend_146 6 rfl
theorem dX3_extend_156 : decode cX3_extend 156 = .ok (.getfield 70, 3) := dk_at bX3_extend_146 7 rfl
theorem dX3_extend_159 : decode cX3_extend 159 = .ok (.iload 8, 2) := dk_at bX3_extend_146 8 rfl
theorem dX3_extend_161 : decode cX3_extend 161 = .ok (.iaload, 1) := dk_at bX3_extend_146 9 rfl
theorem dX3_extend_162 : decode cX3_extend 162 = .ok (.iload 10, 2) := dk_at bX3_extend_146 10 rfl
theorem dX3_extend_164 : decode cX3_extend 164 = .ok (.iload 11, 2) := dk_at bX3_extend_146 11 rfl
theorem dX3_extend_166 : decode cX3_extend 166 = .ok (.iload 7, 2) := dk_at bX3_extend_146 12 rfl
theorem dX3_extend_168 : decode cX3_extend 168 = .ok (.bipush 8, 2) := dk_at bX3_extend_146 13 rfl
theorem dX3_extend_170 : decode cX3_extend 170 = .ok (.imul, 1) := dk_at bX3_extend_146 14 rfl
theorem dX3_extend_171 : decode cX3_extend 171 = .ok (.iload 8, 2) := dk_at bX3_extend_146 15 rfl
theorem dX3_extend_173 : decode cX3_extend 173 = .ok (.iadd, 1) := dk_at bX3_extend_146 16 rfl
theorem dX3_extend_174 : decode cX3_extend 174 = .ok (.iconst 1, 1) := dk_at bX3_extend_146 17 rfl
theorem dX3_extend_175 : decode cX3_extend 175 = .ok (.iadd, 1) := dk_at bX3_extend_146 18 rfl
theorem dX3_extend_176 : decode cX3_extend 176 = .ok (.invokevirtual 43, 3) := dk_at bX3_extend_146 19 rfl
theorem dX3_extend_179 : decode cX3_extend 179 = .ok (.iinc 8 1, 3) := dk_at bX3_extend_146 20 rfl
theorem dX3_extend_182 : decode cX3_extend 182 = .ok (.goto (-172), 3) := dk_at bX3_extend_146 21 rfl
theorem dX3_extend_185 : decode cX3_extend 185 = .ok (.return_, 1) := dk_at bX3_extend_146 22 rfl
theorem bX3_outdone_0 : dk cX3_outdone [(0, .aload_n 0, 1), (1, .getfield 18, 3), (4, .iload_n 1, 1), (5, .iaload, 1), (6, .iload_n 2, 1), (7, .if_icmp .gt 15, 3), (10, .aload_n 0, 1), (11, .getfield 21, 3), (14, .iload_n 1, 1), (15, .iaload, 1), (16, .iload_n 3, 1), (17, .if_icmp .gt 5, 3), (20, .iconst 1, 1), (21, .ireturn, 1), (22, .iload_n 2, 1), (23, .aload_n 0, 1), (24, .getfield 18, 3), (27, .iload_n 1, 1), (28, .iaload, 1), (29, .if_icmp .gt 27, 3), (32, .iload_n 3, 1), (33, .aload_n 0, 1), (34, .getfield 21, 3), (37, .iload_n 1, 1), (38, .iaload, 1), (39, .if_icmp .gt 17, 3), (42, .aload_n 0, 1), (43, .getfield 18, 3), (46, .iload_n 1, 1), (47, .iload_n 2, 1), (48, .iastore, 1), (49, .aload_n 0, 1), (50, .getfield 21, 3), (53, .iload_n 1, 1), (54, .iload_n 3, 1), (55, .iastore, 1), (56, .iconst 0, 1), (57, .ireturn, 1)] = true := by decide +kernel
theorem dX3_outdone_0 : decode cX3_outdone 0 = .ok (.aload_n 0, 1) := dk_at bX3_outdone_0 0 rfl
theorem dX3_outdone_1 : decode cX3_outdone 1 = .ok (.getfield 18, 3) := dk_at bX3_outdone_0 1 rfl
theorem dX3_outdone_4 : decode cX3_outdone 4 = .ok (.iload_n 1, 1) := dk_at bX3_outdone_0 2 rfl
theorem dX3_outdone_5 : decode cX3_outdone 5 = .ok (.iaload, 1) := dk_at bX3_outdone_0 3 rfl
theorem dX3_outdone_6 : decode cX3_outdone 6 = .ok (.iload_n 2, 1) := dk_at bX3_outdone_0 4 rfl
theorem dX3_outdone_7 : decode cX3_outdone 7 = .ok (.if_icmp .gt 15, 3) := dk_at bX3_outdone_0 5 rfl
theorem dX3_outdone_10 : decode cX3_outdone 10 = .ok (.aload_n 0, 1) := dk_at bX3_outdone_0 6 rfl
theorem dX3_outdone_11 : decode cX3_outdone 11 = .ok (.getfield 21, 3) := dk_at bX3_outdone_0 7 rfl
theorem dX3_outdone_14 : decode cX3_outdone 14 = .ok (.iload_n 1, 1) := dk_at bX3_outdone_0 8 rfl
theorem dX3_outdone_15 : decode cX3_outdone 15 = .ok (.iaload, 1) := dk_at bX3_outdone_0 9 rfl
theorem dX3_outdone_16 : decode cX3_outdone 16 = .ok (.iload_n 3, 1) := dk_at bX3_outdone_0 10 rfl
theorem dX3_outdone_17 : decode cX3_outdone 17 = .ok (.if_icmp .gt 5, 3) := dk_at bX3_outdone_0 11 rfl
theorem dX3_outdone_20 : decode cX3_outdone 20 = .ok (.iconst 1, 1) := dk_at bX3_outdone_0 12 rfl
theorem dX3_outdone_21 : decode cX3_outdone 21 = .ok (.ireturn, 1) := dk_at bX3_outdone_0 13 rfl
theorem dX3_outdone_22 : decode cX3_outdone 22 = .ok (.iload_n 2, 1) := dk_at bX3_outdone_0 14 rfl
theorem dX3_outdone_23 : decode cX3_outdone 23 = .ok (.aload_n 0, 1) := dk_at bX3_outdone_0 15 rfl
theorem dX3_outdone_24 : decode cX3_outdone 24 = .ok (.getfield 18, 3) := dk_at bX3_outdone_0 16 rfl
theorem dX3_outdone_27 : decode cX3_outdone 27 = .ok (.iload_n 1, 1) := dk_at bX3_outdone_0 17 rfl
theorem dX3_outdone_28 : decode cX3_outdone 28 = .ok (.iaload, 1) := dk_at bX3_outdone_0 18 rfl
theorem dX3_outdone_29 : decode cX3_outdone 29 = .ok (.if_icmp .gt 27, 3) := dk_at bX3_outdone_0 19 rfl
theorem dX3_outdone_32 : decode cX3_outdone 32 = .ok (.iload_n 3, 1) := dk_at bX3_outdone_0 20 rfl
theorem dX3_outdone_33 : decode cX3_outdone 33 = .ok (.aload_n 0, 1) := dk_at bX3_outdone_0 21 rfl
theorem dX3_outdone_34 : decode cX3_outdone 34 = .ok (.getfield 21, 3) := dk_at bX3_outdone_0 22 rfl
theorem dX3_outdone_37 : decode cX3_outdone 37 = .ok (.iload_n 1, 1) := dk_at bX3_outdone_0 23 rfl
theorem dX3_outdone_38 : decode cX3_outdone 38 = .ok (.iaload, 1) := dk_at bX3_outdone_0 24 rfl
theorem dX3_outdone_39 : decode cX3_outdone 39 = .ok (.if_icmp .gt 17, 3) := dk_at bX3_outdone_0 25 rfl
theorem dX3_outdone_42 : decode cX3_outdone 42 = .ok (.aload_n 0, 1) := dk_at bX3_outdone_0 26 rfl
theorem dX3_outdone_43 : decode cX3_outdone 43 = .ok (.getfield 18, 3) := dk_at bX3_outdone_0 27 rfl
theorem dX3_outdone_46 : decode cX3_outdone 46 = .ok (.iload_n 1, 1) := dk_at bX3_outdone_0 28 rfl
theorem dX3_outdone_47 : decode cX3_outdone 47 = .ok (.iload_n 2, 1) := dk_at bX3_outdone_0 29 rfl
theorem dX3_outdone_48 : decode cX3_outdone 48 = .ok (.iastore, 1) := dk_at bX3_outdone_0 30 rfl
theorem dX3_outdone_49 : decode cX3_outdone 49 = .ok (.aload_n 0, 1) := dk_at bX3_outdone_0 31 rfl
theorem dX3_outdone_50 : decode cX3_outdone 50 = .ok (.getfield 21, 3) := dk_at bX3_outdone_0 32 rfl
theorem dX3_outdone_53 : decode cX3_outdone 53 = .ok (.iload_n 1, 1) := dk_at bX3_outdone_0 33 rfl
theorem dX3_outdone_54 : decode cX3_outdone 54 = .ok (.iload_n 3, 1) := dk_at bX3_outdone_0 34 rfl
theorem dX3_outdone_55 : decode cX3_outdone 55 = .ok (.iastore, 1) := dk_at bX3_outdone_0 35 rfl
theorem dX3_outdone_56 : decode cX3_outdone 56 = .ok (.iconst 0, 1) := dk_at bX3_outdone_0 36 rfl
theorem dX3_outdone_57 : decode cX3_outdone 57 = .ok (.ireturn, 1) := dk_at bX3_outdone_0 37 rfl
theorem bX3_keep_0 : dk cX3_keep [(0, .aload_n 0, 1), (1, .getfield 9, 3), (4, .iload_n 1, 1), (5, .iaload, 1), (6, .iconst (-1), 1), (7, .if_icmp .eq 13, 3), (10, .iload_n 2, 1), (11, .aload_n 0, 1), (12, .getfield 9, 3), (15, .iload_n 1, 1), (16, .iaload, 1), (17, .if_icmp .ge 17, 3), (20, .aload_n 0, 1), (21, .getfield 9, 3), (24, .iload_n 1, 1), (25, .iload_n 2, 1), (26, .iastore, 1), (27, .aload_n 0, 1), (28, .getfield 15, 3), (31, .iload_n 1, 1), (32, .iload_n 3, 1), (33, .iastore, 1), (34, .return_, 1)] = true := by decide +kernel
theorem dX3_keep_0 : decode cX3_keep 0 = .ok (.aload_n 0, 1) := dk_at bX3_keep_0 0 rfl
theorem dX3_keep_1 : decode cX3_keep 1 = .ok (.getfield 9, 3) := dk_at bX3_keep_0 1 rfl
theorem dX3_keep_4 : decode cX3_keep 4 = .ok (.iload_n 1, 1) := dk_at bX3_keep_0 2 rfl
theorem dX3_keep_5 : decode cX3_keep 5 = .ok (.iaload, 1) := dk_at bX3_keep_0 3 rfl
theorem dX3_keep_6 : decode cX3_keep 6 = .ok (.iconst (-1), 1) := dk_at bX3_keep_0 4 rfl
theorem dX3_keep_7 : decode cX3_keep 7 = .ok (.if_icmp .eq 13, 3) := dk_at bX3_keep_0 5 rfl
theorem dX3_keep_10 : decode cX3_keep 10 = .ok (.iload_n 2, 1) := dk_at bX3_keep_0 6 rfl
theorem dX3_keep_11 : decode cX3_keep 11 = .ok (.aload_n 0, 1) := dk_at bX3_keep_0 7 rfl
theorem dX3_keep_12 : decode cX3_keep 12 = .ok (.getfield 9, 3) := dk_at bX3_keep_0 8 rfl
theorem dX3_keep_15 : decode cX3_keep 15 = .ok (.iload_n 1, 1) := dk_at bX3_keep_0 9 rfl
theorem dX3_keep_16 : decode cX3_keep 16 = .ok (.iaload, 1) := dk_at bX3_keep_0 10 rfl
theorem dX3_keep_17 : decode cX3_keep 17 = .ok (.if_icmp .ge 17, 3) := dk_at bX3_keep_0 11 rfl
theorem dX3_keep_20 : decode cX3_keep 20 = .ok (.aload_n 0, 1) := dk_at bX3_keep_0 12 rfl
theorem dX3_keep_21 : decode cX3_keep 21 = .ok (.getfield 9, 3) := dk_at bX3_keep_0 13 rfl
theorem dX3_keep_24 : decode cX3_keep 24 = .ok (.iload_n 1, 1) := dk_at bX3_keep_0 14 rfl
theorem dX3_keep_25 : decode cX3_keep 25 = .ok (.iload_n 2, 1) := dk_at bX3_keep_0 15 rfl
theorem dX3_keep_26 : decode cX3_keep 26 = .ok (.iastore, 1) := dk_at bX3_keep_0 16 rfl
theorem dX3_keep_27 : decode cX3_keep 27 = .ok (.aload_n 0, 1) := dk_at bX3_keep_0 17 rfl
theorem dX3_keep_28 : decode cX3_keep 28 = .ok (.getfield 15, 3) := dk_at bX3_keep_0 18 rfl
theorem dX3_keep_31 : decode cX3_keep 31 = .ok (.iload_n 1, 1) := dk_at bX3_keep_0 19 rfl
theorem dX3_keep_32 : decode cX3_keep 32 = .ok (.iload_n 3, 1) := dk_at bX3_keep_0 20 rfl
theorem dX3_keep_33 : decode cX3_keep 33 = .ok (.iastore, 1) := dk_at bX3_keep_0 21 rfl
theorem dX3_keep_34 : decode cX3_keep 34 = .ok (.return_, 1) := dk_at bX3_keep_0 22 rfl
theorem bX4_init_0 : dk cX4_init [(0, .aload_n 0, 1), (1, .invokespecial 3, 3), (4, .aload_n 0, 1), (5, .bipush 8, 2), (7, .newarray .int, 2), (9, .putfield 9, 3), (12, .aload_n 0, 1), (13, .iconst 0, 1), (14, .putfield 15, 3), (17, .aload_n 0, 1), (18, .iconst 0, 1), (19, .putfield 19, 3), (22, .aload_n 0, 1), (23, .iconst (-1), 1), (24, .putfield 22, 3), (27, .aload_n 0, 1), (28, .iconst 0, 1), (29, .putfield 25, 3), (32, .aload_n 0, 1), (33, .iconst 0, 1), (34, .putfield 28, 3), (37, .aload_n 0, 1), (38, .iconst 0, 1), (39, .putfield 31, 3), (42, .aload_n 0, 1), (43, .iconst 0, 1), (44, .putfield 34, 3), (47, .aload_n 0, 1), (48, .iconst 0, 1), (49, .putfield 37, 3), (52, .aload_n 0, 1), (53, .iconst 0, 1), (54, .putfield 40, 3), (57, .aload_n 0, 1), (58, .iconst 0, 1), (59, .putfield 44, 3), (62, .aload_n 0, 1), (63, .iconst 0, 1), (64, .putfield 47, 3), (67, .aload_n 0, 1)] = true := by decide +kernel
theorem dX4_init_0 : decode cX4_init 0 = .ok (.aload_n 0, 1) := dk_at bX4_init_0 0 rfl
theorem dX4_init_1 : decode cX4_init 1 = .ok (.invokespecial 3, 3) := dk_at bX4_init_0 1 rfl
theorem dX4_init_4 : decode cX4_init 4 = .ok (.aload_n 0, 1) := dk_at bX4_init_0 2 rfl
theorem dX4_init_5 : decode cX4_init 5 = .ok (.bipush 8, 2) := dk_at bX4_init_0 3 rfl
theorem dX4_init_7 : decode cX4_init 7 = .ok (.newarray .int, 2) := dk_at bX4_init_0 4 rfl
theorem dX4_init_9 : decode cX4_init 9 = .ok (.putfield 9, 3) := dk_at bX4_init_0 5 rfl
theorem dX4_init_12 : decode cX4_init 12 = .ok (.aload_n 0, 1) := dk_at bX4_init_0 6 rfl
theorem dX4_init_13 : decode cX4_init 13 = .ok (.iconst 0, 1) := dk_at bX4_init_0 7 rfl
theorem dX4_init_14 : decode cX4_init 14 = .ok (.putfield 15, 3) := dk_at bX4_init_0 8 rfl
theorem dX4_init_17 : decode cX4_init 17 = .ok (.aload_n 0, 1) := dk_at bX4_init_0 9 rfl
theorem dX4_init_18 : decode cX4_init 18 = .ok (.iconst 0, 1) := dk_at bX4_init_0 10 rfl
theorem dX4_init_19 : decode cX4_init 19 = .ok (.putfield 19, 3) := dk_at bX4_init_0 11 rfl
theorem dX4_init_22 : decode cX4_init 22 = .ok (.aload_n 0, 1) := dk_at bX4_init_0 12 rfl
theorem dX4_init_23 : decode cX4_init 23 = .ok (.iconst (-1), 1) := dk_at bX4_init_0 13 rfl
theorem dX4_init_24 : decode cX4_init 24 = .ok (.putfield 22, 3) := dk_at bX4_init_0 14 rfl
theorem dX4_init_27 : decode cX4_init 27 = .ok (.aload_n 0, 1) := dk_at bX4_init_0 15 rfl
theorem dX4_init_28 : decode cX4_init 28 = .ok (.iconst 0, 1) := dk_at bX4_init_0 16 rfl
theorem dX4_init_29 : decode cX4_init 29 = .ok (.putfield 25, 3) := dk_at bX4_init_0 17 rfl
theorem dX4_init_32 : decode cX4_init 32 = .ok (.aload_n 0, 1) := dk_at bX4_init_0 18 rfl
theorem dX4_init_33 : decode cX4_init 33 = .ok (.iconst 0, 1) := dk_at bX4_init_0 19 rfl
theorem dX4_init_34 : decode cX4_init 34 = .ok (.putfield 28, 3) := dk_at bX4_init_0 20 rfl
theorem dX4_init_37 : decode cX4_init 37 = .ok (.aload_n 0, 1) := dk_at bX4_init_0 21 rfl
theorem dX4_init_38 : decode cX4_init 38 = .ok (.iconst 0, 1) := dk_at bX4_init_0 22 rfl
theorem dX4_init_39 : decode cX4_init 39 = .ok (.putfield 31, 3) := dk_at bX4_init_0 23 rfl
theorem dX4_init_42 : decode cX4_init 42 = .ok (.aload_n 0, 1) := dk_at bX4_init_0 24 rfl
theorem dX4_init_43 : decode cX4_init 43 = .ok (.iconst 0, 1) := dk_at bX4_init_0 25 rfl
theorem dX4_init_44 : decode cX4_init 44 = .ok (.putfield 34, 3) := dk_at bX4_init_0 26 rfl
theorem dX4_init_47 : decode cX4_init 47 = .ok (.aload_n 0, 1) := dk_at bX4_init_0 27 rfl
theorem dX4_init_48 : decode cX4_init 48 = .ok (.iconst 0, 1) := dk_at bX4_init_0 28 rfl
theorem dX4_init_49 : decode cX4_init 49 = .ok (.putfield 37, 3) := dk_at bX4_init_0 29 rfl
theorem dX4_init_52 : decode cX4_init 52 = .ok (.aload_n 0, 1) := dk_at bX4_init_0 30 rfl
theorem dX4_init_53 : decode cX4_init 53 = .ok (.iconst 0, 1) := dk_at bX4_init_0 31 rfl
theorem dX4_init_54 : decode cX4_init 54 = .ok (.putfield 40, 3) := dk_at bX4_init_0 32 rfl
theorem dX4_init_57 : decode cX4_init 57 = .ok (.aload_n 0, 1) := dk_at bX4_init_0 33 rfl
theorem dX4_init_58 : decode cX4_init 58 = .ok (.iconst 0, 1) := dk_at bX4_init_0 34 rfl
theorem dX4_init_59 : decode cX4_init 59 = .ok (.putfield 44, 3) := dk_at bX4_init_0 35 rfl
theorem dX4_init_62 : decode cX4_init 62 = .ok (.aload_n 0, 1) := dk_at bX4_init_0 36 rfl
theorem dX4_init_63 : decode cX4_init 63 = .ok (.iconst 0, 1) := dk_at bX4_init_0 37 rfl
theorem dX4_init_64 : decode cX4_init 64 = .ok (.putfield 47, 3) := dk_at bX4_init_0 38 rfl
theorem dX4_init_67 : decode cX4_init 67 = .ok (.aload_n 0, 1) := dk_at bX4_init_0 39 rfl
theorem bX4_init_68 : dk cX4_init [(68, .iconst 0, 1), (69, .putfield 50, 3), (72, .aload_n 0, 1), (73, .iconst 0, 1), (74, .putfield 53, 3), (77, .aload_n 0, 1), (78, .iconst (-1), 1), (79, .putfield 56, 3), (82, .aload_n 0, 1), (83, .iconst 0, 1), (84, .putfield 59, 3), (87, .return_, 1)] = true := by decide +kernel
theorem dX4_init_68 : decode cX4_init 68 = .ok (.iconst 0, 1) := dk_at bX4_init_68 0 rfl
theorem dX4_init_69 : decode cX4_init 69 = .ok (.putfield 50, 3) := dk_at bX4_init_68 1 rfl
theorem dX4_init_72 : decode cX4_init 72 = .ok (.aload_n 0, 1) := dk_at bX4_init_68 2 rfl
theorem dX4_init_73 : decode cX4_init 73 = .ok (.iconst 0, 1) := dk_at bX4_init_68 3 rfl
theorem dX4_init_74 : decode cX4_init 74 = .ok (.putfield 53, 3) := dk_at bX4_init_68 4 rfl
theorem dX4_init_77 : decode cX4_init 77 = .ok (.aload_n 0, 1) := dk_at bX4_init_68 5 rfl
theorem dX4_init_78 : decode cX4_init 78 = .ok (.iconst (-1), 1) := dk_at bX4_init_68 6 rfl
theorem dX4_init_79 : decode cX4_init 79 = .ok (.putfield 56, 3) := dk_at bX4_init_68 7 rfl
theorem dX4_init_82 : decode cX4_init 82 = .ok (.aload_n 0, 1) := dk_at bX4_init_68 8 rfl
theorem dX4_init_83 : decode cX4_init 83 = .ok (.iconst 0, 1) := dk_at bX4_init_68 9 rfl
theorem dX4_init_84 : decode cX4_init 84 = .ok (.putfield 59, 3) := dk_at bX4_init_68 10 rfl
theorem dX4_init_87 : decode cX4_init 87 = .ok (.return_, 1) := dk_at bX4_init_68 11 rfl
theorem bX4_start_0 : dk cX4_start [(0, .aload_n 0, 1), (1, .iconst 0, 1), (2, .putfield 15, 3), (5, .aload_n 0, 1), (6, .iconst 0, 1), (7, .putfield 19, 3), (10, .aload_n 0, 1), (11, .iconst 0, 1), (12, .putfield 22, 3), (15, .aload_n 0, 1), (16, .iload_n 1, 1), (17, .putfield 25, 3), (20, .aload_n 0, 1), (21, .iload_n 3, 1), (22, .putfield 28, 3), (25, .aload_n 0, 1), (26, .iload 4, 2), (28, .putfield 31, 3), (31, .aload_n 0, 1), (32, .iload_n 2, 1), (33, .putfield 34, 3), (36, .aload_n 0, 1), (37, .iconst 0, 1), (38, .putfield 37, 3), (41, .aload_n 0, 1), (42, .iconst 0, 1), (43, .putfield 40, 3), (46, .aload_n 0, 1), (47, .iconst 0, 1), (48, .putfield 44, 3), (51, .aload_n 0, 1), (52, .iconst 0, 1), (53, .putfield 47, 3), (56, .aload_n 0, 1), (57, .iconst 0, 1), (58, .putfield 50, 3), (61, .aload_n 0, 1), (62, .iconst 0, 1), (63, .putfield 53, 3), (66, .aload_n 0, 1)] = true := by decide +kernel
theorem dX4_start_0 : decode cX4_start 0 = .ok (.aload_n 0, 1) := dk_at bX4_start_0 0 rfl
theorem dX4_start_1 : decode cX4_start 1 = .ok (.iconst 0, 1) := dk_at bX4_start_0 1 rfl
theorem dX4_start_2 : decode cX4_start 2 = .ok (.putfield 15, 3) := dk_at bX4_start_0 2 rfl
theorem dX4_start_5 : decode cX4_start 5 = .ok (.aload_n 0, 1) := dk_at bX4_start_0 3 rfl
theorem dX4_start_6 : decode cX4_start 6 = .ok (.iconst 0, 1) := dk_at bX4_start_0 4 rfl
theorem dX4_start_7 : decode cX4_start 7 = .ok (.putfield 19, 3) := dk_at bX4_start_0 5 rfl
theorem dX4_start_10 : decode cX4_start 10 = .ok (.aload_n 0, 1) := dk_at bX4_start_0 6 rfl
theorem dX4_start_11 : decode cX4_start 11 = .ok (.iconst 0, 1) := dk_at bX4_start_0 7 rfl
theorem dX4_start_12 : decode cX4_start 12 = .ok (.putfield 22, 3) := dk_at bX4_start_0 8 rfl
theorem dX4_start_15 : decode cX4_start 15 = .ok (.aload_n 0, 1) := dk_at bX4_start_0 9 rfl
theorem dX4_start_16 : decode cX4_start 16 = .ok (.iload_n 1, 1) := dk_at bX4_start_0 10 rfl
theorem dX4_start_17 : decode cX4_start 17 = .ok (.putfield 25, 3) := dk_at bX4_start_0 11 rfl
theorem dX4_start_20 : decode cX4_start 20 = .ok (.aload_n 0, 1) := dk_at bX4_start_0 12 rfl
theorem dX4_start_21 : decode cX4_start 21 = .ok (.iload_n 3, 1) := dk_at bX4_start_0 13 rfl
theorem dX4_start_22 : decode cX4_start 22 = .ok (.putfield 28, 3) := dk_at bX4_start_0 14 rfl
theorem dX4_start_25 : decode cX4_start 25 = .ok (.aload_n 0, 1) := dk_at bX4_start_0 15 rfl
theorem dX4_start_26 : decode cX4_start 26 = .ok (.iload 4, 2) := dk_at bX4_start_0 16 rfl
theorem dX4_start_28 : decode cX4_start 28 = .ok (.putfield 31, 3) := dk_at bX4_start_0 17 rfl
theorem dX4_start_31 : decode cX4_start 31 = .ok (.aload_n 0, 1) := dk_at bX4_start_0 18 rfl
theorem dX4_start_32 : decode cX4_start 32 = .ok (.iload_n 2, 1) := dk_at bX4_start_0 19 rfl
theorem dX4_start_33 : decode cX4_start 33 = .ok (.putfield 34, 3) := dk_at bX4_start_0 20 rfl
theorem dX4_start_36 : decode cX4_start 36 = .ok (.aload_n 0, 1) := dk_at bX4_start_0 21 rfl
theorem dX4_start_37 : decode cX4_start 37 = .ok (.iconst 0, 1) := dk_at bX4_start_0 22 rfl
theorem dX4_start_38 : decode cX4_start 38 = .ok (.putfield 37, 3) := dk_at bX4_start_0 23 rfl
theorem dX4_start_41 : decode cX4_start 41 = .ok (.aload_n 0, 1) := dk_at bX4_start_0 24 rfl
theorem dX4_start_42 : decode cX4_start 42 = .ok (.iconst 0, 1) := dk_at bX4_start_0 25 rfl
theorem dX4_start_43 : decode cX4_start 43 = .ok (.putfield 40, 3) := dk_at bX4_start_0 26 rfl
theorem dX4_start_46 : decode cX4_start 46 = .ok (.aload_n 0, 1) := dk_at bX4_start_0 27 rfl
theorem dX4_start_47 : decode cX4_start 47 = .ok (.iconst 0, 1) := dk_at bX4_start_0 28 rfl
theorem dX4_start_48 : decode cX4_start 48 = .ok (.putfield 44, 3) := dk_at bX4_start_0 29 rfl
theorem dX4_start_51 : decode cX4_start 51 = .ok (.aload_n 0, 1) := dk_at bX4_start_0 30 rfl
theorem dX4_start_52 : decode cX4_start 52 = .ok (.iconst 0, 1) := dk_at bX4_start_0 31 rfl
theorem dX4_start_53 : decode cX4_start 53 = .ok (.putfield 47, 3) := dk_at bX4_start_0 32 rfl
theorem dX4_start_56 : decode cX4_start 56 = .ok (.aload_n 0, 1) := dk_at bX4_start_0 33 rfl
theorem dX4_start_57 : decode cX4_start 57 = .ok (.iconst 0, 1) := dk_at bX4_start_0 34 rfl
theorem dX4_start_58 : decode cX4_start 58 = .ok (.putfield 50, 3) := dk_at bX4_start_0 35 rfl
theorem dX4_start_61 : decode cX4_start 61 = .ok (.aload_n 0, 1) := dk_at bX4_start_0 36 rfl
theorem dX4_start_62 : decode cX4_start 62 = .ok (.iconst 0, 1) := dk_at bX4_start_0 37 rfl
theorem dX4_start_63 : decode cX4_start 63 = .ok (.putfield 53, 3) := dk_at bX4_start_0 38 rfl
theorem dX4_start_66 : decode cX4_start 66 = .ok (.aload_n 0, 1) := dk_at bX4_start_0 39 rfl
theorem bX4_start_67 : dk cX4_start [(67, .iconst (-1), 1), (68, .putfield 56, 3), (71, .aload_n 0, 1), (72, .iconst 0, 1), (73, .putfield 59, 3), (76, .return_, 1)] = true := by decide +kernel
theorem dX4_start_67 : decode cX4_start 67 = .ok (.iconst (-1), 1) := dk_at bX4_start_67 0 rfl
theorem dX4_start_68 : decode cX4_start 68 = .ok (.putfield 56, 3) := dk_at bX4_start_67 1 rfl
theorem dX4_start_71 : decode cX4_start 71 = .ok (.aload_n 0, 1) := dk_at bX4_start_67 2 rfl
theorem dX4_start_72 : decode cX4_start 72 = .ok (.iconst 0, 1) := dk_at bX4_start_67 3 rfl
theorem dX4_start_73 : decode cX4_start 73 = .ok (.putfield 59, 3) := dk_at bX4_start_67 4 rfl
theorem dX4_start_76 : decode cX4_start 76 = .ok (.return_, 1) := dk_at bX4_start_67 5 rfl
set_option maxRecDepth 20000 in
theorem ggX4_addPlace_X11_below : GoodIn wsX4_addPlace wsX11_below := goodIn_r _ [5] rfl (by decide +kernel)
set_option maxRecDepth 20000 in
theorem gX4_addPlace_X11_below_n62 : GoodIn wsX4_addPlace (wsX11_below) := ggX4_addPlace_X11_below
theorem bX4_addPlace_0 : dk cX4_addPlace [(0, .aload_n 0, 1), (1, .getfield 15, 3), (4, .bipush 8, 2), (6, .invokestatic 62, 3), (9, .ifCond .ne 5, 3), (12, .iconst 0, 1), (13, .ireturn, 1), (14, .aload_n 0, 1), (15, .getfield 9, 3), (18, .aload_n 0, 1), (19, .getfield 15, 3), (22, .iload_n 1, 1), (23, .iastore, 1), (24, .aload_n 0, 1), (25, .dup, 1), (26, .getfield 15, 3), (29, .iconst 1, 1), (30, .iadd, 1), (31, .putfield 15, 3), (34, .iconst 1, 1), (35, .ireturn, 1)] = true := by decide +kernel
theorem dX4_addPlace_0 : decode cX4_addPlace 0 = .ok (.aload_n 0, 1) := dk_at bX4_addPlace_0 0 rfl
theorem dX4_addPlace_1 : decode cX4_addPlace 1 = .ok (.getfield 15, 3) := dk_at bX4_addPlace_0 1 rfl
theorem dX4_addPlace_4 : decode cX4_addPlace 4 = .ok (.bipush 8, 2) := dk_at bX4_addPlace_0 2 rfl
theorem dX4_addPlace_6 : decode cX4_addPlace 6 = .ok (.invokestatic 62, 3) := dk_at bX4_addPlace_0 3 rfl
theorem dX4_addPlace_9 : decode cX4_addPlace 9 = .ok (.ifCond .ne 5, 3) := dk_at bX4_addPlace_0 4 rfl
theorem dX4_addPlace_12 : decode cX4_addPlace 12 = .ok (.iconst 0, 1) := dk_at bX4_addPlace_0 5 rfl
theorem dX4_addPlace_13 : decode cX4_addPlace 13 = .ok (.ireturn, 1) := dk_at bX4_addPlace_0 6 rfl
theorem dX4_addPlace_14 : decode cX4_addPlace 14 = .ok (.aload_n 0, 1) := dk_at bX4_addPlace_0 7 rfl
theorem dX4_addPlace_15 : decode cX4_addPlace 15 = .ok (.getfield 9, 3) := dk_at bX4_addPlace_0 8 rfl
theorem dX4_addPlace_18 : decode cX4_addPlace 18 = .ok (.aload_n 0, 1) := dk_at bX4_addPlace_0 9 rfl
theorem dX4_addPlace_19 : decode cX4_addPlace 19 = .ok (.getfield 15, 3) := dk_at bX4_addPlace_0 10 rfl
theorem dX4_addPlace_22 : decode cX4_addPlace 22 = .ok (.iload_n 1, 1) := dk_at bX4_addPlace_0 11 rfl
theorem dX4_addPlace_23 : decode cX4_addPlace 23 = .ok (.iastore, 1) := dk_at bX4_addPlace_0 12 rfl
theorem dX4_addPlace_24 : decode cX4_addPlace 24 = .ok (.aload_n 0, 1) := dk_at bX4_addPlace_0 13 rfl
theorem dX4_addPlace_25 : decode cX4_addPlace 25 = .ok (.dup, 1) := dk_at bX4_addPlace_0 14 rfl
theorem dX4_addPlace_26 : decode cX4_addPlace 26 = .ok (.getfield 15, 3) := dk_at bX4_addPlace_0 15 rfl
theorem dX4_addPlace_29 : decode cX4_addPlace 29 = .ok (.iconst 1, 1) := dk_at bX4_addPlace_0 16 rfl
theorem dX4_addPlace_30 : decode cX4_addPlace 30 = .ok (.iadd, 1) := dk_at bX4_addPlace_0 17 rfl
theorem dX4_addPlace_31 : decode cX4_addPlace 31 = .ok (.putfield 15, 3) := dk_at bX4_addPlace_0 18 rfl
theorem dX4_addPlace_34 : decode cX4_addPlace 34 = .ok (.iconst 1, 1) := dk_at bX4_addPlace_0 19 rfl
theorem dX4_addPlace_35 : decode cX4_addPlace 35 = .ok (.ireturn, 1) := dk_at bX4_addPlace_0 20 rfl
theorem bX4_placesLeft_0 : dk cX4_placesLeft [(0, .aload_n 0, 1), (1, .getfield 15, 3), (4, .aload_n 0, 1), (5, .getfield 19, 3), (8, .isub, 1), (9, .ireturn, 1)] = true := by decide +kernel
theorem dX4_placesLeft_0 : decode cX4_placesLeft 0 = .ok (.aload_n 0, 1) := dk_at bX4_placesLeft_0 0 rfl
theorem dX4_placesLeft_1 : decode cX4_placesLeft 1 = .ok (.getfield 15, 3) := dk_at bX4_placesLeft_0 1 rfl
theorem dX4_placesLeft_4 : decode cX4_placesLeft 4 = .ok (.aload_n 0, 1) := dk_at bX4_placesLeft_0 2 rfl
theorem dX4_placesLeft_5 : decode cX4_placesLeft 5 = .ok (.getfield 19, 3) := dk_at bX4_placesLeft_0 3 rfl
theorem dX4_placesLeft_8 : decode cX4_placesLeft 8 = .ok (.isub, 1) := dk_at bX4_placesLeft_0 4 rfl
theorem dX4_placesLeft_9 : decode cX4_placesLeft 9 = .ok (.ireturn, 1) := dk_at bX4_placesLeft_0 5 rfl
theorem bX4_begunDays_0 : dk cX4_begunDays [(0, .aload_n 0, 1), (1, .getfield 44, 3), (4, .iconst 4, 1), (5, .iadd, 1), (6, .iconst 1, 1), (7, .isub, 1), (8, .iconst 4, 1), (9, .idiv, 1), (10, .ireturn, 1)] = true := by decide +kernel
theorem dX4_begunDays_0 : decode cX4_begunDays 0 = .ok (.aload_n 0, 1) := dk_at bX4_begunDays_0 0 rfl
theorem dX4_begunDays_1 : decode cX4_begunDays 1 = .ok (.getfield 44, 3) := dk_at bX4_begunDays_0 1 rfl
theorem dX4_begunDays_4 : decode cX4_begunDays 4 = .ok (.iconst 4, 1) := dk_at bX4_begunDays_0 2 rfl
theorem dX4_begunDays_5 : decode cX4_begunDays 5 = .ok (.iadd, 1) := dk_at bX4_begunDays_0 3 rfl
theorem dX4_begunDays_6 : decode cX4_begunDays 6 = .ok (.iconst 1, 1) := dk_at bX4_begunDays_0 4 rfl
theorem dX4_begunDays_7 : decode cX4_begunDays 7 = .ok (.isub, 1) := dk_at bX4_begunDays_0 5 rfl
theorem dX4_begunDays_8 : decode cX4_begunDays 8 = .ok (.iconst 4, 1) := dk_at bX4_begunDays_0 6 rfl
theorem dX4_begunDays_9 : decode cX4_begunDays 9 = .ok (.idiv, 1) := dk_at bX4_begunDays_0 7 rfl
theorem dX4_begunDays_10 : decode cX4_begunDays 10 = .ok (.ireturn, 1) := dk_at bX4_begunDays_0 8 rfl
theorem bX4_keptWhole_0 : dk cX4_keptWhole [(0, .aload_n 0, 1), (1, .getfield 22, 3), (4, .iconst 1, 1), (5, .if_icmp .ne 14, 3), (8, .aload_n 0, 1), (9, .getfield 40, 3), (12, .ifCond .ne 7, 3), (15, .iconst 1, 1), (16, .goto 4, 3), (19, .iconst 0, 1), (20, .ireturn, 1)] = true := by decide +kernel
theorem dX4_keptWhole_0 : decode cX4_keptWhole 0 = .ok (.aload_n 0, 1) := dk_at bX4_keptWhole_0 0 rfl
theorem dX4_keptWhole_1 : decode cX4_keptWhole 1 = .ok (.getfield 22, 3) := dk_at bX4_keptWhole_0 1 rfl
theorem dX4_keptWhole_4 : decode cX4_keptWhole 4 = .ok (.iconst 1, 1) := dk_at bX4_keptWhole_0 2 rfl
theorem dX4_keptWhole_5 : decode cX4_keptWhole 5 = .ok (.if_icmp .ne 14, 3) := dk_at bX4_keptWhole_0 3 rfl
theorem dX4_keptWhole_8 : decode cX4_keptWhole 8 = .ok (.aload_n 0, 1) := dk_at bX4_keptWhole_0 4 rfl
theorem dX4_keptWhole_9 : decode cX4_keptWhole 9 = .ok (.getfield 40, 3) := dk_at bX4_keptWhole_0 5 rfl
theorem dX4_keptWhole_12 : decode cX4_keptWhole 12 = .ok (.ifCond .ne 7, 3) := dk_at bX4_keptWhole_0 6 rfl
theorem dX4_keptWhole_15 : decode cX4_keptWhole 15 = .ok (.iconst 1, 1) := dk_at bX4_keptWhole_0 7 rfl
theorem dX4_keptWhole_16 : decode cX4_keptWhole 16 = .ok (.goto 4, 3) := dk_at bX4_keptWhole_0 8 rfl
theorem dX4_keptWhole_19 : decode cX4_keptWhole 19 = .ok (.iconst 0, 1) := dk_at bX4_keptWhole_0 9 rfl
theorem dX4_keptWhole_20 : decode cX4_keptWhole 20 = .ok (.ireturn, 1) := dk_at bX4_keptWhole_0 10 rfl
set_option maxRecDepth 20000 in
theorem ggX4_tell_X4_placesLeft : GoodIn wsX4_tell wsX4_placesLeft := goodIn_r _ [15, 16, 17, 18, 19, 20, 21, 22, 23, 24, 25, 26, 27, 28, 29, 30, 31, 32, 33] rfl (by decide +kernel)
set_option maxRecDepth 20000 in
theorem gX4_tell_X4_placesLeft : GoodIn wsX4_tell (wsV RX4 66 RX4 yX4_placesLeft wsX4_placesLeft) := goodIn_app (goodIn_r _ [11, 12, 13, 14] rfl (by decide +kernel)) ggX4_tell_X4_placesLeft
theorem bX4_tell_0 : dk cX4_tell [(0, .iload_n 1, 1), (1, .tableswitch 122 0 10 #[59, 64, 69, 74, 79, 92, 97, 102, 107, 112, 117], 59), (60, .aload_n 0, 1), (61, .getfield 22, 3), (64, .ireturn, 1), (65, .aload_n 0, 1), (66, .getfield 44, 3), (69, .ireturn, 1), (70, .aload_n 0, 1), (71, .getfield 34, 3), (74, .ireturn, 1), (75, .aload_n 0, 1), (76, .getfield 37, 3), (79, .ireturn, 1), (80, .aload_n 0, 1), (81, .getfield 40, 3), (84, .ifCond .eq 7, 3), (87, .iconst 1, 1), (88, .goto 4, 3), (91, .iconst 0, 1), (92, .ireturn, 1), (93, .aload_n 0, 1), (94, .getfield 47, 3), (97, .ireturn, 1), (98, .aload_n 0, 1), (99, .getfield 50, 3), (102, .ireturn, 1), (103, .aload_n 0, 1), (104, .getfield 53, 3), (107, .ireturn, 1), (108, .aload_n 0, 1), (109, .getfield 59, 3), (112, .ireturn, 1), (113, .aload_n 0, 1), (114, .invokevirtual 66, 3), (117, .ireturn, 1), (118, .aload_n 0, 1), (119, .getfield 56, 3), (122, .ireturn, 1), (123, .bipush (-9), 2)] = true := by decide +kernel
theorem dX4_tell_0 : decode cX4_tell 0 = .ok (.iload_n 1, 1) := dk_at bX4_tell_0 0 rfl
theorem dX4_tell_1 : decode cX4_tell 1 = .ok (.tableswitch 122 0 10 #[59, 64, 69, 74, 79, 92, 97, 102, 107, 112, 117], 59) := dk_at bX4_tell_0 1 rfl
theorem dX4_tell_60 : decode cX4_tell 60 = .ok (.aload_n 0, 1) := dk_at bX4_tell_0 2 rfl
theorem dX4_tell_61 : decode cX4_tell 61 = .ok (.getfield 22, 3) := dk_at bX4_tell_0 3 rfl
theorem dX4_tell_64 : decode cX4_tell 64 = .ok (.ireturn, 1) := dk_at bX4_tell_0 4 rfl
theorem dX4_tell_65 : decode cX4_tell 65 = .ok (.aload_n 0, 1) := dk_at bX4_tell_0 5 rfl
theorem dX4_tell_66 : decode cX4_tell 66 = .ok (.getfield 44, 3) := dk_at bX4_tell_0 6 rfl
theorem dX4_tell_69 : decode cX4_tell 69 = .ok (.ireturn, 1) := dk_at bX4_tell_0 7 rfl
theorem dX4_tell_70 : decode cX4_tell 70 = .ok (.aload_n 0, 1) := dk_at bX4_tell_0 8 rfl
theorem dX4_tell_71 : decode cX4_tell 71 = .ok (.getfield 34, 3) := dk_at bX4_tell_0 9 rfl
theorem dX4_tell_74 : decode cX4_tell 74 = .ok (.ireturn, 1) := dk_at bX4_tell_0 10 rfl
theorem dX4_tell_75 : decode cX4_tell 75 = .ok (.aload_n 0, 1) := dk_at bX4_tell_0 11 rfl
theorem dX4_tell_76 : decode cX4_tell 76 = .ok (.getfield 37, 3) := dk_at bX4_tell_0 12 rfl
theorem dX4_tell_79 : decode cX4_tell 79 = .ok (.ireturn, 1) := dk_at bX4_tell_0 13 rfl
theorem dX4_tell_80 : decode cX4_tell 80 = .ok (.aload_n 0, 1) := dk_at bX4_tell_0 14 rfl
theorem dX4_tell_81 : decode cX4_tell 81 = .ok (.getfield 40, 3) := dk_at bX4_tell_0 15 rfl
theorem dX4_tell_84 : decode cX4_tell 84 = .ok (.ifCond .eq 7, 3) := dk_at bX4_tell_0 16 rfl
theorem dX4_tell_87 : decode cX4_tell 87 = .ok (.iconst 1, 1) := dk_at bX4_tell_0 17 rfl
theorem dX4_tell_88 : decode cX4_tell 88 = .ok (.goto 4, 3) := dk_at bX4_tell_0 18 rfl
theorem dX4_tell_91 : decode cX4_tell 91 = .ok (.iconst 0, 1) := dk_at bX4_tell_0 19 rfl
theorem dX4_tell_92 : decode cX4_tell 92 = .ok (.ireturn, 1) := dk_at bX4_tell_0 20 rfl
theorem dX4_tell_93 : decode cX4_tell 93 = .ok (.aload_n 0, 1) := dk_at bX4_tell_0 21 rfl
theorem dX4_tell_94 : decode cX4_tell 94 = .ok (.getfield 47, 3) := dk_at bX4_tell_0 22 rfl
theorem dX4_tell_97 : decode cX4_tell 97 = .ok (.ireturn, 1) := dk_at bX4_tell_0 23 rfl
theorem dX4_tell_98 : decode cX4_tell 98 = .ok (.aload_n 0, 1) := dk_at bX4_tell_0 24 rfl
theorem dX4_tell_99 : decode cX4_tell 99 = .ok (.getfield 50, 3) := dk_at bX4_tell_0 25 rfl
theorem dX4_tell_102 : decode cX4_tell 102 = .ok (.ireturn, 1) := dk_at bX4_tell_0 26 rfl
theorem dX4_tell_103 : decode cX4_tell 103 = .ok (.aload_n 0, 1) := dk_at bX4_tell_0 27 rfl
theorem dX4_tell_104 : decode cX4_tell 104 = .ok (.getfield 53, 3) := dk_at bX4_tell_0 28 rfl
theorem dX4_tell_107 : decode cX4_tell 107 = .ok (.ireturn, 1) := dk_at bX4_tell_0 29 rfl
theorem dX4_tell_108 : decode cX4_tell 108 = .ok (.aload_n 0, 1) := dk_at bX4_tell_0 30 rfl
theorem dX4_tell_109 : decode cX4_tell 109 = .ok (.getfield 59, 3) := dk_at bX4_tell_0 31 rfl
theorem dX4_tell_112 : decode cX4_tell 112 = .ok (.ireturn, 1) := dk_at bX4_tell_0 32 rfl
theorem dX4_tell_113 : decode cX4_tell 113 = .ok (.aload_n 0, 1) := dk_at bX4_tell_0 33 rfl
theorem dX4_tell_114 : decode cX4_tell 114 = .ok (.invokevirtual 66, 3) := dk_at bX4_tell_0 34 rfl
theorem dX4_tell_117 : decode cX4_tell 117 = .ok (.ireturn, 1) := dk_at bX4_tell_0 35 rfl
theorem dX4_tell_118 : decode cX4_tell 118 = .ok (.aload_n 0, 1) := dk_at bX4_tell_0 36 rfl
theorem dX4_tell_119 : decode cX4_tell 119 = .ok (.getfield 56, 3) := dk_at bX4_tell_0 37 rfl
theorem dX4_tell_122 : decode cX4_tell 122 = .ok (.ireturn, 1) := dk_at bX4_tell_0 38 rfl
theorem dX4_tell_123 : decode cX4_tell 123 = .ok (.bipush (-9), 2) := dk_at bX4_tell_0 39 rfl
theorem dX4_tell_125 : decode cX4_tell 125 = .ok (.ireturn, 1) := by decide +kernel
set_option maxRecDepth 20000 in
theorem ggX4_work_X8_windAt : GoodIn wsX4_work wsX8_windAt := goodIn_r _ [16, 17, 18, 19, 20, 21, 22, 23, 24, 163, 164] rfl (by decide +kernel)
set_option maxRecDepth 20000 in
theorem gX4_work_X8_windAt : GoodIn wsX4_work (wsV RX4 70 RX8 yX8_windAt wsX8_windAt) := goodIn_app (goodIn_r _ [12, 13, 14, 15] rfl (by decide +kernel)) ggX4_work_X8_windAt
set_option maxRecDepth 20000 in
theorem ggX4_work_X0_broken : GoodIn wsX4_work wsX0_broken := goodIn_r _ [29, 30, 157, 158, 159, 160, 161, 162] rfl (by decide +kernel)
set_option maxRecDepth 20000 in
theorem gX4_work_X0_broken : GoodIn wsX4_work (wsV RX4 85 RX0 yX0_broken wsX0_broken) := goodIn_app (goodIn_r _ [25, 26, 27, 28] rfl (by decide +kernel)) ggX4_work_X0_broken
set_option maxRecDepth 20000 in
theorem ggX4_work_X7_actAt : GoodIn wsX4_work wsX7_actAt := goodIn_r _ [35, 36, 37, 38, 39, 40, 41, 42, 34, 43, 165, 166, 167, 168, 169] rfl (by decide +kernel)
set_option maxRecDepth 20000 in
theorem gX4_work_X7_actAt : GoodIn wsX4_work (wsV RX4 88 RX7 yX7_actAt wsX7_actAt) := goodIn_app (goodIn_r _ [31, 32, 33, 34] rfl (by decide +kernel)) ggX4_work_X7_actAt
set_option maxRecDepth 20000 in
theorem ggX4_work_X1_holds : GoodIn wsX4_work wsX1_holds := goodIn_r _ [48, 49, 50, 51, 52, 53, 54, 47, 55, 56, 21, 19, 22, 57, 58, 59, 60, 61, 62, 63, 64, 65, 66, 67, 68, 18, 20, 69, 70, 71, 170, 171, 172, 173, 174] rfl (by decide +kernel)
set_option maxRecDepth 20000 in
theorem gX4_work_X1_holds : GoodIn wsX4_work (wsV RX4 98 RX1 yX1_holds wsX1_holds) := goodIn_app (goodIn_r _ [44, 45, 46, 47] rfl (by decide +kernel)) ggX4_work_X1_holds
set_option maxRecDepth 20000 in
theorem ggX4_work_X4_noteCover : GoodIn wsX4_work wsX4_noteCover := goodIn_r _ [76, 77, 78, 1, 141, 142, 143, 144, 145, 146, 147, 148, 149, 150, 151, 152, 153, 154, 155, 156] rfl (by decide +kernel)
set_option maxRecDepth 20000 in
theorem gX4_work_X4_noteCover : GoodIn wsX4_work (wsV RX4 104 RX4 yX4_noteCover wsX4_noteCover) := goodIn_app (goodIn_r _ [72, 73, 74, 75] rfl (by decide +kernel)) ggX4_work_X4_noteCover
set_option maxRecDepth 20000 in
theorem ggX4_work_X4_turnHome : GoodIn wsX4_work wsX4_turnHome := goodIn_r _ [82, 9, 83, 84, 85, 2, 86, 87, 23, 19, 24, 141, 142, 143, 144, 145, 146, 147, 148, 149, 150, 151, 152, 153, 154, 155, 156, 163, 164] rfl (by decide +kernel)
set_option maxRecDepth 20000 in
theorem gX4_work_X4_turnHome : GoodIn wsX4_work (wsV RX4 108 RX4 yX4_turnHome wsX4_turnHome) := goodIn_app (goodIn_r _ [79, 80, 81, 75] rfl (by decide +kernel)) ggX4_work_X4_turnHome
set_option maxRecDepth 20000 in
theorem ggX4_work_X4_move : GoodIn wsX4_work wsX4_move := goodIn_r _ [91, 6, 92, 93, 62, 94, 95, 96, 61, 63, 97, 98, 99, 75, 100, 87, 86, 83, 2, 101, 102, 103, 104, 105, 106, 107, 108, 109, 110, 111, 112, 23, 19, 24, 18, 20, 113, 114, 115, 116, 117, 118, 119, 120, 21, 22, 121, 122, 123, 28, 124, 125, 126, 127, 128, 129, 130, 141, 142, 143, 144, 145, 146, 147, 148, 149, 150, 151, 152, 153, 154, 155, 156, 157, 158, 159, 160, 161, 162] rfl (by decide +kernel)
set_option maxRecDepth 20000 in
theorem gX4_work_X4_move : GoodIn wsX4_work (wsV RX4 112 RX4 yX4_move wsX4_move) := goodIn_app (goodIn_r _ [88, 89, 90, 75] rfl (by decide +kernel)) ggX4_work_X4_move
set_option maxRecDepth 20000 in
theorem ggX4_work_X0_drink : GoodIn wsX4_work wsX0_drink := goodIn_r _ [134, 135, 136, 65, 62, 66, 157, 158, 159, 160, 161, 162] rfl (by decide +kernel)
set_option maxRecDepth 20000 in
theorem gX4_work_X0_drink : GoodIn wsX4_work (wsV RX4 116 RX0 yX0_drink wsX0_drink) := goodIn_app (goodIn_r _ [131, 132, 133, 28] rfl (by decide +kernel)) ggX4_work_X0_drink
set_option maxRecDepth 20000 in
theorem ggX4_work_X0_wear : GoodIn wsX4_work wsX0_wear := goodIn_r _ [140, 30, 136, 65, 62, 66, 157, 158, 159, 160, 161, 162] rfl (by decide +kernel)
set_option maxRecDepth 20000 in
theorem gX4_work_X0_wear : GoodIn wsX4_work (wsV RX4 120 RX0 yX0_wear wsX0_wear) := goodIn_app (goodIn_r _ [137, 138, 139, 28] rfl (by decide +kernel)) ggX4_work_X0_wear
theorem bX4_work_0 : dk cX4_work [(0, .aload_n 0, 1), (1, .getfield 44, 3), (4, .iconst 4, 1), (5, .idiv, 1), (6, .istore_n 3, 1), (7, .aload_n 2, 1), (8, .aload_n 0, 1), (9, .getfield 34, 3), (12, .aload_n 0, 1), (13, .getfield 28, 3), (16, .iload_n 3, 1), (17, .iadd, 1), (18, .invokevirtual 70, 3), (21, .istore 4, 2), (23, .iload 4, 2), (25, .bipush 10, 2), (27, .irem, 1), (28, .istore 5, 2), (30, .aload_n 1, 1), (31, .getfield 76, 3), (34, .iload 5, 2), (36, .aload_n 1, 1), (37, .getfield 82, 3), (40, .iload_n 3, 1), (41, .aload_n 1, 1), (42, .invokevirtual 85, 3), (45, .invokevirtual 88, 3), (48, .istore 6, 2), (50, .iload 6, 2), (52, .iconst 2, 1), (53, .if_icmp .ne 10, 3), (56, .aload_n 0, 1), (57, .iconst 2, 1), (58, .putfield 22, 3), (61, .iconst 0, 1), (62, .ireturn, 1), (63, .aload_n 0, 1), (64, .aload_n 1, 1), (65, .getfield 94, 3), (68, .aload_n 0, 1)] = true := by decide +kernel
theorem dX4_work_0 : decode cX4_work 0 = .ok (.aload_n 0, 1) := dk_at bX4_work_0 0 rfl
theorem dX4_work_1 : decode cX4_work 1 = .ok (.getfield 44, 3) := dk_at bX4_work_0 1 rfl
theorem dX4_work_4 : decode cX4_work 4 = .ok (.iconst 4, 1) := dk_at bX4_work_0 2 rfl
theorem dX4_work_5 : decode cX4_work 5 = .ok (.idiv, 1) := dk_at bX4_work_0 3 rfl
theorem dX4_work_6 : decode cX4_work 6 = .ok (.istore_n 3, 1) := dk_at bX4_work_0 4 rfl
theorem dX4_work_7 : decode cX4_work 7 = .ok (.aload_n 2, 1) := dk_at bX4_work_0 5 rfl
theorem dX4_work_8 : decode cX4_work 8 = .ok (.aload_n 0, 1) := dk_at bX4_work_0 6 rfl
theorem dX4_work_9 : decode cX4_work 9 = .ok (.getfield 34, 3) := dk_at bX4_work_0 7 rfl
theorem dX4_work_12 : decode cX4_work 12 = .ok (.aload_n 0, 1) := dk_at bX4_work_0 8 rfl
theorem dX4_work_13 : decode cX4_work 13 = .ok (.getfield 28, 3) := dk_at bX4_work_0 9 rfl
theorem dX4_work_16 : decode cX4_work 16 = .ok (.iload_n 3, 1) := dk_at bX4_work_0 10 rfl
theorem dX4_work_17 : decode cX4_work 17 = .ok (.iadd, 1) := dk_at bX4_work_0 11 rfl
theorem dX4_work_18 : decode cX4_work 18 = .ok (.invokevirtual 70, 3) := dk_at bX4_work_0 12 rfl
theorem dX4_work_21 : decode cX4_work 21 = .ok (.istore 4, 2) := dk_at bX4_work_0 13 rfl
theorem dX4_work_23 : decode cX4_work 23 = .ok (.iload 4, 2) := dk_at bX4_work_0 14 rfl
theorem dX4_work_25 : decode cX4_work 25 = .ok (.bipush 10, 2) := dk_at bX4_work_0 15 rfl
theorem dX4_work_27 : decode cX4_work 27 = .ok (.irem, 1) := dk_at bX4_work_0 16 rfl
theorem dX4_work_28 : decode cX4_work 28 = .ok (.istore 5, 2) := dk_at bX4_work_0 17 rfl
theorem dX4_work_30 : decode cX4_work 30 = .ok (.aload_n 1, 1) := dk_at bX4_work_0 18 rfl
theorem dX4_work_31 : decode cX4_work 31 = .ok (.getfield 76, 3) := dk_at bX4_work_0 19 rfl
theorem dX4_work_34 : decode cX4_work 34 = .ok (.iload 5, 2) := dk_at bX4_work_0 20 rfl
theorem dX4_work_36 : decode cX4_work 36 = .ok (.aload_n 1, 1) := dk_at bX4_work_0 21 rfl
theorem dX4_work_37 : decode cX4_work 37 = .ok (.getfield 82, 3) := dk_at bX4_work_0 22 rfl
theorem dX4_work_40 : decode cX4_work 40 = .ok (.iload_n 3, 1) := dk_at bX4_work_0 23 rfl
theorem dX4_work_41 : decode cX4_work 41 = .ok (.aload_n 1, 1) := dk_at bX4_work_0 24 rfl
theorem dX4_work_42 : decode cX4_work 42 = .ok (.invokevirtual 85, 3) := dk_at bX4_work_0 25 rfl
theorem dX4_work_45 : decode cX4_work 45 = .ok (.invokevirtual 88, 3) := dk_at bX4_work_0 26 rfl
theorem dX4_work_48 : decode cX4_work 48 = .ok (.istore 6, 2) := dk_at bX4_work_0 27 rfl
theorem dX4_work_50 : decode cX4_work 50 = .ok (.iload 6, 2) := dk_at bX4_work_0 28 rfl
theorem dX4_work_52 : decode cX4_work 52 = .ok (.iconst 2, 1) := dk_at bX4_work_0 29 rfl
theorem dX4_work_53 : decode cX4_work 53 = .ok (.if_icmp .ne 10, 3) := dk_at bX4_work_0 30 rfl
theorem dX4_work_56 : decode cX4_work 56 = .ok (.aload_n 0, 1) := dk_at bX4_work_0 31 rfl
theorem dX4_work_57 : decode cX4_work 57 = .ok (.iconst 2, 1) := dk_at bX4_work_0 32 rfl
theorem dX4_work_58 : decode cX4_work 58 = .ok (.putfield 22, 3) := dk_at bX4_work_0 33 rfl
theorem dX4_work_61 : decode cX4_work 61 = .ok (.iconst 0, 1) := dk_at bX4_work_0 34 rfl
theorem dX4_work_62 : decode cX4_work 62 = .ok (.ireturn, 1) := dk_at bX4_work_0 35 rfl
theorem dX4_work_63 : decode cX4_work 63 = .ok (.aload_n 0, 1) := dk_at bX4_work_0 36 rfl
theorem dX4_work_64 : decode cX4_work 64 = .ok (.aload_n 1, 1) := dk_at bX4_work_0 37 rfl
theorem dX4_work_65 : decode cX4_work 65 = .ok (.getfield 94, 3) := dk_at bX4_work_0 38 rfl
theorem dX4_work_68 : decode cX4_work 68 = .ok (.aload_n 0, 1) := dk_at bX4_work_0 39 rfl
theorem bX4_work_69 : dk cX4_work [(69, .getfield 34, 3), (72, .aload_n 0, 1), (73, .getfield 28, 3), (76, .iload_n 3, 1), (77, .iadd, 1), (78, .aload_n 0, 1), (79, .getfield 31, 3), (82, .iload 5, 2), (84, .invokevirtual 98, 3), (87, .invokevirtual 104, 3), (90, .iload 6, 2), (92, .iconst 1, 1), (93, .if_icmp .ne 15, 3), (96, .aload_n 0, 1), (97, .getfield 40, 3), (100, .ifCond .ne 8, 3), (103, .aload_n 0, 1), (104, .aload_n 2, 1), (105, .invokevirtual 108, 3), (108, .iload 6, 2), (110, .ifCond .ne 16, 3), (113, .aload_n 0, 1), (114, .dup, 1), (115, .getfield 50, 3), (118, .iconst 1, 1), (119, .iadd, 1), (120, .putfield 50, 3), (123, .goto 15, 3), (126, .aload_n 0, 1), (127, .aload_n 1, 1), (128, .iload 4, 2), (130, .bipush 10, 2), (132, .idiv, 1), (133, .iload 5, 2), (135, .invokevirtual 112, 3), (138, .aload_n 0, 1), (139, .dup, 1), (140, .getfield 59, 3), (143, .aload_n 1, 1), (144, .aload_n 0, 1)] = true := by decide +kernel
theorem dX4_work_69 : decode cX4_work 69 = .ok (.getfield 34, 3) := dk_at bX4_work_69 0 rfl
theorem dX4_work_72 : decode cX4_work 72 = .ok (.aload_n 0, 1) := dk_at bX4_work_69 1 rfl
theorem dX4_work_73 : decode cX4_work 73 = .ok (.getfield 28, 3) := dk_at bX4_work_69 2 rfl
theorem dX4_work_76 : decode cX4_work 76 = .ok (.iload_n 3, 1) := dk_at bX4_work_69 3 rfl
theorem dX4_work_77 : decode cX4_work 77 = .ok (.iadd, 1) := dk_at bX4_work_69 4 rfl
theorem dX4_work_78 : decode cX4_work 78 = .ok (.aload_n 0, 1) := dk_at bX4_work_69 5 rfl
theorem dX4_work_79 : decode cX4_work 79 = .ok (.getfield 31, 3) := dk_at bX4_work_69 6 rfl
theorem dX4_work_82 : decode cX4_work 82 = .ok (.iload 5, 2) := dk_at bX4_work_69 7 rfl
theorem dX4_work_84 : decode cX4_work 84 = .ok (.invokevirtual 98, 3) := dk_at bX4_work_69 8 rfl
theorem dX4_work_87 : decode cX4_work 87 = .ok (.invokevirtual 104, 3) := dk_at bX4_work_69 9 rfl
theorem dX4_work_90 : decode cX4_work 90 = .ok (.iload 6, 2) := dk_at bX4_work_69 10 rfl
theorem dX4_work_92 : decode cX4_work 92 = .ok (.iconst 1, 1) := dk_at bX4_work_69 11 rfl
theorem dX4_work_93 : decode cX4_work 93 = .ok (.if_icmp .ne 15, 3) := dk_at bX4_work_69 12 rfl
theorem dX4_work_96 : decode cX4_work 96 = .ok (.aload_n 0, 1) := dk_at bX4_work_69 13 rfl
theorem dX4_work_97 : decode cX4_work 97 = .ok (.getfield 40, 3) := dk_at bX4_work_69 14 rfl
theorem dX4_work_100 : decode cX4_work 100 = .ok (.ifCond .ne 8, 3) := dk_at bX4_work_69 15 rfl
theorem dX4_work_103 : decode cX4_work 103 = .ok (.aload_n 0, 1) := dk_at bX4_work_69 16 rfl
theorem dX4_work_104 : decode cX4_work 104 = .ok (.aload_n 2, 1) := dk_at bX4_work_69 17 rfl
theorem dX4_work_105 : decode cX4_work 105 = .ok (.invokevirtual 108, 3) := dk_at bX4_work_69 18 rfl
theorem dX4_work_108 : decode cX4_work 108 = .ok (.iload 6, 2) := dk_at bX4_work_69 19 rfl
theorem dX4_work_110 : decode cX4_work 110 = .ok (.ifCond .ne 16, 3) := dk_at bX4_work_69 20 rfl
theorem dX4_work_113 : decode cX4_work 113 = .ok (.aload_n 0, 1) := dk_at bX4_work_69 21 rfl
theorem dX4_work_114 : decode cX4_work 114 = .ok (.dup, 1) := dk_at bX4_work_69 22 rfl
theorem dX4_work_115 : decode cX4_work 115 = .ok (.getfield 50, 3) := dk_at bX4_work_69 23 rfl
theorem dX4_work_118 : decode cX4_work 118 = .ok (.iconst 1, 1) := dk_at bX4_work_69 24 rfl
theorem dX4_work_119 : decode cX4_work 119 = .ok (.iadd, 1) := dk_at bX4_work_69 25 rfl
theorem dX4_work_120 : decode cX4_work 120 = .ok (.putfield 50, 3) := dk_at bX4_work_69 26 rfl
theorem dX4_work_123 : decode cX4_work 123 = .ok (.goto 15, 3) := dk_at bX4_work_69 27 rfl
theorem dX4_work_126 : decode cX4_work 126 = .ok (.aload_n 0, 1) := dk_at bX4_work_69 28 rfl
theorem dX4_work_127 : decode cX4_work 127 = .ok (.aload_n 1, 1) := dk_at bX4_work_69 29 rfl
theorem dX4_work_128 : decode cX4_work 128 = .ok (.iload 4, 2) := dk_at bX4_work_69 30 rfl
theorem dX4_work_130 : decode cX4_work 130 = .ok (.bipush 10, 2) := dk_at bX4_work_69 31 rfl
theorem dX4_work_132 : decode cX4_work 132 = .ok (.idiv, 1) := dk_at bX4_work_69 32 rfl
theorem dX4_work_133 : decode cX4_work 133 = .ok (.iload 5, 2) := dk_at bX4_work_69 33 rfl
theorem dX4_work_135 : decode cX4_work 135 = .ok (.invokevirtual 112, 3) := dk_at bX4_work_69 34 rfl
theorem dX4_work_138 : decode cX4_work 138 = .ok (.aload_n 0, 1) := dk_at bX4_work_69 35 rfl
theorem dX4_work_139 : decode cX4_work 139 = .ok (.dup, 1) := dk_at bX4_work_69 36 rfl
theorem dX4_work_140 : decode cX4_work 140 = .ok (.getfield 59, 3) := dk_at bX4_work_69 37 rfl
theorem dX4_work_143 : decode cX4_work 143 = .ok (.aload_n 1, 1) := dk_at bX4_work_69 38 rfl
theorem dX4_work_144 : decode cX4_work 144 = .ok (.aload_n 0, 1) := dk_at bX4_work_69 39 rfl
theorem bX4_work_145 : dk cX4_work [(145, .getfield 31, 3), (148, .invokevirtual 116, 3), (151, .ifCond .eq 7, 3), (154, .iconst 0, 1), (155, .goto 4, 3), (158, .iconst 1, 1), (159, .iadd, 1), (160, .putfield 59, 3), (163, .aload_n 1, 1), (164, .invokevirtual 120, 3), (167, .aload_n 0, 1), (168, .dup, 1), (169, .getfield 44, 3), (172, .iconst 1, 1), (173, .iadd, 1), (174, .putfield 44, 3), (177, .iconst 1, 1), (178, .ireturn, 1)] = true := by decide +kernel
theorem dX4_work_145 : decode cX4_work 145 = .ok (.getfield 31, 3) := dk_at bX4_work_145 0 rfl
theorem dX4_work_148 : decode cX4_work 148 = .ok (.invokevirtual 116, 3) := dk_at bX4_work_145 1 rfl
theorem dX4_work_151 : decode cX4_work 151 = .ok (.ifCond .eq 7, 3) := dk_at bX4_work_145 2 rfl
theorem dX4_work_154 : decode cX4_work 154 = .ok (.iconst 0, 1) := dk_at bX4_work_145 3 rfl
theorem dX4_work_155 : decode cX4_work 155 = .ok (.goto 4, 3) := dk_at bX4_work_145 4 rfl
theorem dX4_work_158 : decode cX4_work 158 = .ok (.iconst 1, 1) := dk_at bX4_work_145 5 rfl
theorem dX4_work_159 : decode cX4_work 159 = .ok (.iadd, 1) := dk_at bX4_work_145 6 rfl
theorem dX4_work_160 : decode cX4_work 160 = .ok (.putfield 59, 3) := dk_at bX4_work_145 7 rfl
theorem dX4_work_163 : decode cX4_work 163 = .ok (.aload_n 1, 1) := dk_at bX4_work_145 8 rfl
theorem dX4_work_164 : decode cX4_work 164 = .ok (.invokevirtual 120, 3) := dk_at bX4_work_145 9 rfl
theorem dX4_work_167 : decode cX4_work 167 = .ok (.aload_n 0, 1) := dk_at bX4_work_145 10 rfl
theorem dX4_work_168 : decode cX4_work 168 = .ok (.dup, 1) := dk_at bX4_work_145 11 rfl
theorem dX4_work_169 : decode cX4_work 169 = .ok (.getfield 44, 3) := dk_at bX4_work_145 12 rfl
theorem dX4_work_172 : decode cX4_work 172 = .ok (.iconst 1, 1) := dk_at bX4_work_145 13 rfl
theorem dX4_work_173 : decode cX4_work 173 = .ok (.iadd, 1) := dk_at bX4_work_145 14 rfl
theorem dX4_work_174 : decode cX4_work 174 = .ok (.putfield 44, 3) := dk_at bX4_work_145 15 rfl
theorem dX4_work_177 : decode cX4_work 177 = .ok (.iconst 1, 1) := dk_at bX4_work_145 16 rfl
theorem dX4_work_178 : decode cX4_work 178 = .ok (.ireturn, 1) := dk_at bX4_work_145 17 rfl
theorem bX4_noteCover_0 : dk cX4_noteCover [(0, .iload_n 1, 1), (1, .ifCond .ne 36, 3), (4, .aload_n 0, 1), (5, .dup, 1), (6, .getfield 53, 3), (9, .iconst 1, 1), (10, .iadd, 1), (11, .putfield 53, 3), (14, .aload_n 0, 1), (15, .aload_n 0, 1), (16, .getfield 56, 3), (19, .iconst (-1), 1), (20, .if_icmp .ne 10, 3), (23, .aload_n 0, 1), (24, .getfield 44, 3), (27, .goto 7, 3), (30, .aload_n 0, 1), (31, .getfield 56, 3), (34, .putfield 56, 3), (37, .return_, 1)] = true := by decide +kernel
theorem dX4_noteCover_0 : decode cX4_noteCover 0 = .ok (.iload_n 1, 1) := dk_at bX4_noteCover_0 0 rfl
theorem dX4_noteCover_1 : decode cX4_noteCover 1 = .ok (.ifCond .ne 36, 3) := dk_at bX4_noteCover_0 1 rfl
theorem dX4_noteCover_4 : decode cX4_noteCover 4 = .ok (.aload_n 0, 1) := dk_at bX4_noteCover_0 2 rfl
theorem dX4_noteCover_5 : decode cX4_noteCover 5 = .ok (.dup, 1) := dk_at bX4_noteCover_0 3 rfl
theorem dX4_noteCover_6 : decode cX4_noteCover 6 = .ok (.getfield 53, 3) := dk_at bX4_noteCover_0 4 rfl
theorem dX4_noteCover_9 : decode cX4_noteCover 9 = .ok (.iconst 1, 1) := dk_at bX4_noteCover_0 5 rfl
theorem dX4_noteCover_10 : decode cX4_noteCover 10 = .ok (.iadd, 1) := dk_at bX4_noteCover_0 6 rfl
theorem dX4_noteCover_11 : decode cX4_noteCover 11 = .ok (.putfield 53, 3) := dk_at bX4_noteCover_0 7 rfl
theorem dX4_noteCover_14 : decode cX4_noteCover 14 = .ok (.aload_n 0, 1) := dk_at bX4_noteCover_0 8 rfl
theorem dX4_noteCover_15 : decode cX4_noteCover 15 = .ok (.aload_n 0, 1) := dk_at bX4_noteCover_0 9 rfl
theorem dX4_noteCover_16 : decode cX4_noteCover 16 = .ok (.getfield 56, 3) := dk_at bX4_noteCover_0 10 rfl
theorem dX4_noteCover_19 : decode cX4_noteCover 19 = .ok (.iconst (-1), 1) := dk_at bX4_noteCover_0 11 rfl
theorem dX4_noteCover_20 : decode cX4_noteCover 20 = .ok (.if_icmp .ne 10, 3) := dk_at bX4_noteCover_0 12 rfl
theorem dX4_noteCover_23 : decode cX4_noteCover 23 = .ok (.aload_n 0, 1) := dk_at bX4_noteCover_0 13 rfl
theorem dX4_noteCover_24 : decode cX4_noteCover 24 = .ok (.getfield 44, 3) := dk_at bX4_noteCover_0 14 rfl
theorem dX4_noteCover_27 : decode cX4_noteCover 27 = .ok (.goto 7, 3) := dk_at bX4_noteCover_0 15 rfl
theorem dX4_noteCover_30 : decode cX4_noteCover 30 = .ok (.aload_n 0, 1) := dk_at bX4_noteCover_0 16 rfl
theorem dX4_noteCover_31 : decode cX4_noteCover 31 = .ok (.getfield 56, 3) := dk_at bX4_noteCover_0 17 rfl
theorem dX4_noteCover_34 : decode cX4_noteCover 34 = .ok (.putfield 56, 3) := dk_at bX4_noteCover_0 18 rfl
theorem dX4_noteCover_37 : decode cX4_noteCover 37 = .ok (.return_, 1) := dk_at bX4_noteCover_0 19 rfl
set_option maxRecDepth 20000 in
theorem ggX4_turnHome_X11_below : GoodIn wsX4_turnHome wsX11_below := goodIn_r _ [10] rfl (by decide +kernel)
set_option maxRecDepth 20000 in
theorem gX4_turnHome_X11_below_n62 : GoodIn wsX4_turnHome (wsX11_below) := ggX4_turnHome_X11_below
theorem bX4_turnHome_0 : dk cX4_turnHome [(0, .aload_n 0, 1), (1, .iconst 1, 1), (2, .putfield 40, 3), (5, .aload_n 0, 1), (6, .getfield 9, 3), (9, .iconst 0, 1), (10, .aload_n 0, 1), (11, .getfield 25, 3), (14, .bipush 10, 2), (16, .invokestatic 62, 3), (19, .ifCond .eq 15, 3), (22, .aload_n 1, 1), (23, .getfield 123, 3), (26, .aload_n 0, 1), (27, .getfield 25, 3), (30, .iaload, 1), (31, .goto 7, 3), (34, .aload_n 0, 1), (35, .getfield 34, 3), (38, .iastore, 1), (39, .aload_n 0, 1), (40, .iconst 1, 1), (41, .putfield 15, 3), (44, .aload_n 0, 1), (45, .iconst 0, 1), (46, .putfield 19, 3), (49, .return_, 1)] = true := by decide +kernel
theorem dX4_turnHome_0 : decode cX4_turnHome 0 = .ok (.aload_n 0, 1) := dk_at bX4_turnHome_0 0 rfl
theorem dX4_turnHome_1 : decode cX4_turnHome 1 = .ok (.iconst 1, 1) := dk_at bX4_turnHome_0 1 rfl
theorem dX4_turnHome_2 : decode cX4_turnHome 2 = .ok (.putfield 40, 3) := dk_at bX4_turnHome_0 2 rfl
theorem dX4_turnHome_5 : decode cX4_turnHome 5 = .ok (.aload_n 0, 1) := dk_at bX4_turnHome_0 3 rfl
theorem dX4_turnHome_6 : decode cX4_turnHome 6 = .ok (.getfield 9, 3) := dk_at bX4_turnHome_0 4 rfl
theorem dX4_turnHome_9 : decode cX4_turnHome 9 = .ok (.iconst 0, 1) := dk_at bX4_turnHome_0 5 rfl
theorem dX4_turnHome_10 : decode cX4_turnHome 10 = .ok (.aload_n 0, 1) := dk_at bX4_turnHome_0 6 rfl
theorem dX4_turnHome_11 : decode cX4_turnHome 11 = .ok (.getfield 25, 3) := dk_at bX4_turnHome_0 7 rfl
theorem dX4_turnHome_14 : decode cX4_turnHome 14 = .ok (.bipush 10, 2) := dk_at bX4_turnHome_0 8 rfl
theorem dX4_turnHome_16 : decode cX4_turnHome 16 = .ok (.invokestatic 62, 3) := dk_at bX4_turnHome_0 9 rfl
theorem dX4_turnHome_19 : decode cX4_turnHome 19 = .ok (.ifCond .eq 15, 3) := dk_at bX4_turnHome_0 10 rfl
theorem dX4_turnHome_22 : decode cX4_turnHome 22 = .ok (.aload_n 1, 1) := dk_at bX4_turnHome_0 11 rfl
theorem dX4_turnHome_23 : decode cX4_turnHome 23 = .ok (.getfield 123, 3) := dk_at bX4_turnHome_0 12 rfl
theorem dX4_turnHome_26 : decode cX4_turnHome 26 = .ok (.aload_n 0, 1) := dk_at bX4_turnHome_0 13 rfl
theorem dX4_turnHome_27 : decode cX4_turnHome 27 = .ok (.getfield 25, 3) := dk_at bX4_turnHome_0 14 rfl
theorem dX4_turnHome_30 : decode cX4_turnHome 30 = .ok (.iaload, 1) := dk_at bX4_turnHome_0 15 rfl
theorem dX4_turnHome_31 : decode cX4_turnHome 31 = .ok (.goto 7, 3) := dk_at bX4_turnHome_0 16 rfl
theorem dX4_turnHome_34 : decode cX4_turnHome 34 = .ok (.aload_n 0, 1) := dk_at bX4_turnHome_0 17 rfl
theorem dX4_turnHome_35 : decode cX4_turnHome 35 = .ok (.getfield 34, 3) := dk_at bX4_turnHome_0 18 rfl
theorem dX4_turnHome_38 : decode cX4_turnHome 38 = .ok (.iastore, 1) := dk_at bX4_turnHome_0 19 rfl
theorem dX4_turnHome_39 : decode cX4_turnHome 39 = .ok (.aload_n 0, 1) := dk_at bX4_turnHome_0 20 rfl
theorem dX4_turnHome_40 : decode cX4_turnHome 40 = .ok (.iconst 1, 1) := dk_at bX4_turnHome_0 21 rfl
theorem dX4_turnHome_41 : decode cX4_turnHome 41 = .ok (.putfield 15, 3) := dk_at bX4_turnHome_0 22 rfl
theorem dX4_turnHome_44 : decode cX4_turnHome 44 = .ok (.aload_n 0, 1) := dk_at bX4_turnHome_0 23 rfl
theorem dX4_turnHome_45 : decode cX4_turnHome 45 = .ok (.iconst 0, 1) := dk_at bX4_turnHome_0 24 rfl
theorem dX4_turnHome_46 : decode cX4_turnHome 46 = .ok (.putfield 19, 3) := dk_at bX4_turnHome_0 25 rfl
theorem dX4_turnHome_49 : decode cX4_turnHome 49 = .ok (.return_, 1) := dk_at bX4_turnHome_0 26 rfl
set_option maxRecDepth 20000 in
theorem ggX4_move_X4_passPlaces : GoodIn wsX4_move wsX4_passPlaces := goodIn_r _ [14, 15, 16, 17, 18, 1, 57, 58, 59, 60, 61, 62, 63, 64, 65, 66, 67, 68, 69, 70, 71, 72] rfl (by decide +kernel)
set_option maxRecDepth 20000 in
theorem gX4_move_X4_passPlaces : GoodIn wsX4_move (wsV RX4 126 RX4 yX4_passPlaces wsX4_passPlaces) := goodIn_app (goodIn_r _ [10, 11, 12, 13] rfl (by decide +kernel)) ggX4_move_X4_passPlaces
set_option maxRecDepth 20000 in
theorem ggX4_move_X4_course : GoodIn wsX4_move wsX4_course := goodIn_r _ [22, 23, 24, 25, 13, 26, 18, 27, 28, 29, 30, 15, 17, 31, 32, 33, 34, 35, 36, 37, 38, 39, 40, 41, 42, 43, 44, 45, 57, 58, 59, 60, 61, 62, 63, 64, 65, 66, 67, 68, 69, 70, 71, 72] rfl (by decide +kernel)
set_option maxRecDepth 20000 in
theorem gX4_move_X4_course : GoodIn wsX4_move (wsV RX4 129 RX4 yX4_course wsX4_course) := goodIn_app (goodIn_r _ [19, 20, 21, 13] rfl (by decide +kernel)) ggX4_move_X4_course
set_option maxRecDepth 20000 in
theorem ggX4_move_X0_speedAt : GoodIn wsX4_move wsX0_speedAt := goodIn_r _ [50, 51, 31, 32, 33, 73, 74, 75, 76, 77, 78] rfl (by decide +kernel)
set_option maxRecDepth 20000 in
theorem gX4_move_X0_speedAt : GoodIn wsX4_move (wsV RX4 141 RX0 yX0_speedAt wsX0_speedAt) := goodIn_app (goodIn_r _ [46, 47, 48, 49] rfl (by decide +kernel)) ggX4_move_X0_speedAt
set_option maxRecDepth 20000 in
theorem ggX4_move_X4_step : GoodIn wsX4_move wsX4_step := goodIn_r _ [55, 18, 56, 1, 6, 40, 41, 42, 13, 43, 27, 28, 29, 30, 15, 17, 31, 32, 33, 44, 45, 36, 37, 38, 39, 23, 24, 25, 26, 34, 35, 10, 11, 12, 14, 16, 57, 58, 59, 60, 61, 62, 63, 64, 65, 66, 67, 68, 69, 70, 71, 72] rfl (by decide +kernel)
set_option maxRecDepth 20000 in
theorem gX4_move_X4_step : GoodIn wsX4_move (wsV RX4 144 RX4 yX4_step wsX4_step) := goodIn_app (goodIn_r _ [52, 53, 54, 13] rfl (by decide +kernel)) ggX4_move_X4_step
theorem bX4_move_0 : dk cX4_move [(0, .aload_n 0, 1), (1, .invokevirtual 126, 3), (4, .aload_n 0, 1), (5, .getfield 22, 3), (8, .ifCond .eq 4, 3), (11, .return_, 1), (12, .aload_n 0, 1), (13, .invokevirtual 129, 3), (16, .iload_n 2, 1), (17, .isub, 1), (18, .invokestatic 132, 3), (21, .istore 4, 2), (23, .aload_n 0, 1), (24, .dup, 1), (25, .getfield 37, 3), (28, .aload_n 1, 1), (29, .iload 4, 2), (31, .bipush 8, 2), (33, .iload 4, 2), (35, .isub, 1), (36, .invokestatic 138, 3), (39, .iload_n 3, 1), (40, .invokevirtual 141, 3), (43, .iadd, 1), (44, .putfield 37, 3), (47, .aload_n 0, 1), (48, .getfield 37, 3), (51, .bipush 10, 2), (53, .if_icmp .lt 28, 3), (56, .aload_n 0, 1), (57, .getfield 22, 3), (60, .ifCond .ne 21, 3), (63, .aload_n 0, 1), (64, .dup, 1), (65, .getfield 37, 3), (68, .bipush 10, 2), (70, .isub, 1), (71, .putfield 37, 3), (74, .aload_n 0, 1), (75, .invokevirtual 144, 3)] = true := by decide +kernel
theorem dX4_move_0 : decode cX4_move 0 = .ok (.aload_n 0, 1) := dk_at bX4_move_0 0 rfl
theorem dX4_move_1 : decode cX4_move 1 = .ok (.invokevirtual 126, 3) := dk_at bX4_move_0 1 rfl
theorem dX4_move_4 : decode cX4_move 4 = .ok (.aload_n 0, 1) := dk_at bX4_move_0 2 rfl
theorem dX4_move_5 : decode cX4_move 5 = .ok (.getfield 22, 3) := dk_at bX4_move_0 3 rfl
theorem dX4_move_8 : decode cX4_move 8 = .ok (.ifCond .eq 4, 3) := dk_at bX4_move_0 4 rfl
theorem dX4_move_11 : decode cX4_move 11 = .ok (.return_, 1) := dk_at bX4_move_0 5 rfl
theorem dX4_move_12 : decode cX4_move 12 = .ok (.aload_n 0, 1) := dk_at bX4_move_0 6 rfl
theorem dX4_move_13 : decode cX4_move 13 = .ok (.invokevirtual 129, 3) := dk_at bX4_move_0 7 rfl
theorem dX4_move_16 : decode cX4_move 16 = .ok (.iload_n 2, 1) := dk_at bX4_move_0 8 rfl
theorem dX4_move_17 : decode cX4_move 17 = .ok (.isub, 1) := dk_at bX4_move_0 9 rfl
theorem dX4_move_18 : decode cX4_move 18 = .ok (.invokestatic 132, 3) := dk_at bX4_move_0 10 rfl
theorem dX4_move_21 : decode cX4_move 21 = .ok (.istore 4, 2) := dk_at bX4_move_0 11 rfl
theorem dX4_move_23 : decode cX4_move 23 = .ok (.aload_n 0, 1) := dk_at bX4_move_0 12 rfl
theorem dX4_move_24 : decode cX4_move 24 = .ok (.dup, 1) := dk_at bX4_move_0 13 rfl
theorem dX4_move_25 : decode cX4_move 25 = .ok (.getfield 37, 3) := dk_at bX4_move_0 14 rfl
theorem dX4_move_28 : decode cX4_move 28 = .ok (.aload_n 1, 1) := dk_at bX4_move_0 15 rfl
theorem dX4_move_29 : decode cX4_move 29 = .ok (.iload 4, 2) := dk_at bX4_move_0 16 rfl
theorem dX4_move_31 : decode cX4_move 31 = .ok (.bipush 8, 2) := dk_at bX4_move_0 17 rfl
theorem dX4_move_33 : decode cX4_move 33 = .ok (.iload 4, 2) := dk_at bX4_move_0 18 rfl
theorem dX4_move_35 : decode cX4_move 35 = .ok (.isub, 1) := dk_at bX4_move_0 19 rfl
theorem dX4_move_36 : decode cX4_move 36 = .ok (.invokestatic 138, 3) := dk_at bX4_move_0 20 rfl
theorem dX4_move_39 : decode cX4_move 39 = .ok (.iload_n 3, 1) := dk_at bX4_move_0 21 rfl
theorem dX4_move_40 : decode cX4_move 40 = .ok (.invokevirtual 141, 3) := dk_at bX4_move_0 22 rfl
theorem dX4_move_43 : decode cX4_move 43 = .ok (.iadd, 1) := dk_at bX4_move_0 23 rfl
theorem dX4_move_44 : decode cX4_move 44 = .ok (.putfield 37, 3) := dk_at bX4_move_0 24 rfl
theorem dX4_move_47 : decode cX4_move 47 = .ok (.aload_n 0, 1) := dk_at bX4_move_0 25 rfl
theorem dX4_move_48 : decode cX4_move 48 = .ok (.getfield 37, 3) := dk_at bX4_move_0 26 rfl
theorem dX4_move_51 : decode cX4_move 51 = .ok (.bipush 10, 2) := dk_at bX4_move_0 27 rfl
theorem dX4_move_53 : decode cX4_move 53 = .ok (.if_icmp .lt 28, 3) := dk_at bX4_move_0 28 rfl
theorem dX4_move_56 : decode cX4_move 56 = .ok (.aload_n 0, 1) := dk_at bX4_move_0 29 rfl
theorem dX4_move_57 : decode cX4_move 57 = .ok (.getfield 22, 3) := dk_at bX4_move_0 30 rfl
theorem dX4_move_60 : decode cX4_move 60 = .ok (.ifCond .ne 21, 3) := dk_at bX4_move_0 31 rfl
theorem dX4_move_63 : decode cX4_move 63 = .ok (.aload_n 0, 1) := dk_at bX4_move_0 32 rfl
theorem dX4_move_64 : decode cX4_move 64 = .ok (.dup, 1) := dk_at bX4_move_0 33 rfl
theorem dX4_move_65 : decode cX4_move 65 = .ok (.getfield 37, 3) := dk_at bX4_move_0 34 rfl
theorem dX4_move_68 : decode cX4_move 68 = .ok (.bipush 10, 2) := dk_at bX4_move_0 35 rfl
theorem dX4_move_70 : decode cX4_move 70 = .ok (.isub, 1) := dk_at bX4_move_0 36 rfl
theorem dX4_move_71 : decode cX4_move 71 = .ok (.putfield 37, 3) := dk_at bX4_move_0 37 rfl
theorem dX4_move_74 : decode cX4_move 74 = .ok (.aload_n 0, 1) := dk_at bX4_move_0 38 rfl
theorem dX4_move_75 : decode cX4_move 75 = .ok (.invokevirtual 144, 3) := dk_at bX4_move_0 39 rfl
theorem bX4_move_78 : dk cX4_move [(78, .goto (-31), 3), (81, .return_, 1)] = true := by decide +kernel
theorem dX4_move_78 : decode cX4_move 78 = .ok (.goto (-31), 3) := dk_at bX4_move_78 0 rfl
theorem dX4_move_81 : decode cX4_move 81 = .ok (.return_, 1) := dk_at bX4_move_78 1 rfl
set_option maxRecDepth 20000 in
theorem ggX4_step_X4_columnSign : GoodIn wsX4_step wsX4_columnSign := goodIn_r _ [9, 1, 10, 11, 12, 8, 13, 14, 15, 16, 17, 18, 19, 20, 21, 22, 23, 24, 36, 37, 38, 39, 40, 41, 42, 43, 44, 45, 46, 47, 48, 49, 50, 51] rfl (by decide +kernel)
set_option maxRecDepth 20000 in
theorem gX4_step_X4_columnSign : GoodIn wsX4_step (wsV RX4 147 RX4 yX4_columnSign wsX4_columnSign) := goodIn_app (goodIn_r _ [5, 6, 7, 8] rfl (by decide +kernel)) ggX4_step_X4_columnSign
set_option maxRecDepth 20000 in
theorem ggX4_step_X4_rowSign : GoodIn wsX4_step wsX4_rowSign := goodIn_r _ [28, 1, 10, 11, 12, 8, 13, 14, 15, 16, 17, 18, 29, 30, 21, 22, 23, 24, 36, 37, 38, 39, 40, 41, 42, 43, 44, 45, 46, 47, 48, 49, 50, 51] rfl (by decide +kernel)
set_option maxRecDepth 20000 in
theorem gX4_step_X4_rowSign : GoodIn wsX4_step (wsV RX4 150 RX4 yX4_rowSign wsX4_rowSign) := goodIn_app (goodIn_r _ [25, 26, 27, 8] rfl (by decide +kernel)) ggX4_step_X4_rowSign
set_option maxRecDepth 20000 in
theorem ggX4_step_X4_passPlaces : GoodIn wsX4_step wsX4_passPlaces := goodIn_r _ [34, 14, 35, 15, 1, 3, 36, 37, 38, 39, 40, 41, 42, 43, 44, 45, 46, 47, 48, 49, 50, 51] rfl (by decide +kernel)
set_option maxRecDepth 20000 in
theorem gX4_step_X4_passPlaces : GoodIn wsX4_step (wsV RX4 126 RX4 yX4_passPlaces wsX4_passPlaces) := goodIn_app (goodIn_r _ [31, 32, 33, 8] rfl (by decide +kernel)) ggX4_step_X4_passPlaces
theorem bX4_step_0 : dk cX4_step [(0, .aload_n 0, 1), (1, .dup, 1), (2, .getfield 34, 3), (5, .bipush 100, 2), (7, .aload_n 0, 1), (8, .invokevirtual 147, 3), (11, .imul, 1), (12, .aload_n 0, 1), (13, .invokevirtual 150, 3), (16, .iadd, 1), (17, .iadd, 1), (18, .putfield 34, 3), (21, .aload_n 0, 1), (22, .dup, 1), (23, .getfield 47, 3), (26, .iconst 1, 1), (27, .iadd, 1), (28, .putfield 47, 3), (31, .aload_n 0, 1), (32, .invokevirtual 126, 3), (35, .aload_n 0, 1), (36, .getfield 22, 3), (39, .iconst 1, 1), (40, .if_icmp .ne 8, 3), (43, .aload_n 0, 1), (44, .iconst 0, 1), (45, .putfield 37, 3), (48, .return_, 1)] = true := by decide +kernel
theorem dX4_step_0 : decode cX4_step 0 = .ok (.aload_n 0, 1) := dk_at bX4_step_0 0 rfl
theorem dX4_step_1 : decode cX4_step 1 = .ok (.dup, 1) := dk_at bX4_step_0 1 rfl
theorem dX4_step_2 : decode cX4_step 2 = .ok (.getfield 34, 3) := dk_at bX4_step_0 2 rfl
theorem dX4_step_5 : decode cX4_step 5 = .ok (.bipush 100, 2) := dk_at bX4_step_0 3 rfl
theorem dX4_step_7 : decode cX4_step 7 = .ok (.aload_n 0, 1) := dk_at bX4_step_0 4 rfl
theorem dX4_step_8 : decode cX4_step 8 = .ok (.invokevirtual 147, 3) := dk_at bX4_step_0 5 rfl
theorem dX4_step_11 : decode cX4_step 11 = .ok (.imul, 1) := dk_at bX4_step_0 6 rfl
theorem dX4_step_12 : decode cX4_step 12 = .ok (.aload_n 0, 1) := dk_at bX4_step_0 7 rfl
theorem dX4_step_13 : decode cX4_step 13 = .ok (.invokevirtual 150, 3) := dk_at bX4_step_0 8 rfl
theorem dX4_step_16 : decode cX4_step 16 = .ok (.iadd, 1) := dk_at bX4_step_0 9 rfl
theorem dX4_step_17 : decode cX4_step 17 = .ok (.iadd, 1) := dk_at bX4_step_0 10 rfl
theorem dX4_step_18 : decode cX4_step 18 = .ok (.putfield 34, 3) := dk_at bX4_step_0 11 rfl
theorem dX4_step_21 : decode cX4_step 21 = .ok (.aload_n 0, 1) := dk_at bX4_step_0 12 rfl
theorem dX4_step_22 : decode cX4_step 22 = .ok (.dup, 1) := dk_at bX4_step_0 13 rfl
theorem dX4_step_23 : decode cX4_step 23 = .ok (.getfield 47, 3) := dk_at bX4_step_0 14 rfl
theorem dX4_step_26 : decode cX4_step 26 = .ok (.iconst 1, 1) := dk_at bX4_step_0 15 rfl
theorem dX4_step_27 : decode cX4_step 27 = .ok (.iadd, 1) := dk_at bX4_step_0 16 rfl
theorem dX4_step_28 : decode cX4_step 28 = .ok (.putfield 47, 3) := dk_at bX4_step_0 17 rfl
theorem dX4_step_31 : decode cX4_step 31 = .ok (.aload_n 0, 1) := dk_at bX4_step_0 18 rfl
theorem dX4_step_32 : decode cX4_step 32 = .ok (.invokevirtual 126, 3) := dk_at bX4_step_0 19 rfl
theorem dX4_step_35 : decode cX4_step 35 = .ok (.aload_n 0, 1) := dk_at bX4_step_0 20 rfl
theorem dX4_step_36 : decode cX4_step 36 = .ok (.getfield 22, 3) := dk_at bX4_step_0 21 rfl
theorem dX4_step_39 : decode cX4_step 39 = .ok (.iconst 1, 1) := dk_at bX4_step_0 22 rfl
theorem dX4_step_40 : decode cX4_step 40 = .ok (.if_icmp .ne 8, 3) := dk_at bX4_step_0 23 rfl
theorem dX4_step_43 : decode cX4_step 43 = .ok (.aload_n 0, 1) := dk_at bX4_step_0 24 rfl
theorem dX4_step_44 : decode cX4_step 44 = .ok (.iconst 0, 1) := dk_at bX4_step_0 25 rfl
theorem dX4_step_45 : decode cX4_step 45 = .ok (.putfield 37, 3) := dk_at bX4_step_0 26 rfl
theorem dX4_step_48 : decode cX4_step 48 = .ok (.return_, 1) := dk_at bX4_step_0 27 rfl
theorem bX4_passPlaces_0 : dk cX4_passPlaces [(0, .aload_n 0, 1), (1, .getfield 19, 3), (4, .aload_n 0, 1), (5, .getfield 15, 3), (8, .if_icmp .ge 41, 3), (11, .aload_n 0, 1), (12, .getfield 19, 3), (15, .bipush 8, 2), (17, .if_icmp .ge 32, 3), (20, .aload_n 0, 1), (21, .getfield 9, 3), (24, .aload_n 0, 1), (25, .getfield 19, 3), (28, .iaload, 1), (29, .aload_n 0, 1), (30, .getfield 34, 3), (33, .if_icmp .ne 16, 3), (36, .aload_n 0, 1), (37, .dup, 1), (38, .getfield 19, 3), (41, .iconst 1, 1), (42, .iadd, 1), (43, .putfield 19, 3), (46, .goto (-46), 3), (49, .aload_n 0, 1), (50, .getfield 19, 3), (53, .aload_n 0, 1), (54, .getfield 15, 3), (57, .if_icmp .lt 8, 3), (60, .aload_n 0, 1), (61, .iconst 1, 1), (62, .putfield 22, 3), (65, .return_, 1)] = true := by decide +kernel
theorem dX4_passPlaces_0 : decode cX4_passPlaces 0 = .ok (.aload_n 0, 1) := dk_at bX4_passPlaces_0 0 rfl
theorem dX4_passPlaces_1 : decode cX4_passPlaces 1 = .ok (.getfield 19, 3) := dk_at bX4_passPlaces_0 1 rfl
theorem dX4_passPlaces_4 : decode cX4_passPlaces 4 = .ok (.aload_n 0, 1) := dk_at bX4_passPlaces_0 2 rfl
theorem dX4_passPlaces_5 : decode cX4_passPlaces 5 = .ok (.getfield 15, 3) := dk_at bX4_passPlaces_0 3 rfl
theorem dX4_passPlaces_8 : decode cX4_passPlaces 8 = .ok (.if_icmp .ge 41, 3) := dk_at bX4_passPlaces_0 4 rfl
theorem dX4_passPlaces_11 : decode cX4_passPlaces 11 = .ok (.aload_n 0, 1) := dk_at bX4_passPlaces_0 5 rfl
theorem dX4_passPlaces_12 : decode cX4_passPlaces 12 = .ok (.getfield 19, 3) := dk_at bX4_passPlaces_0 6 rfl
theorem dX4_passPlaces_15 : decode cX4_passPlaces 15 = .ok (.bipush 8, 2) := dk_at bX4_passPlaces_0 7 rfl
theorem dX4_passPlaces_17 : decode cX4_passPlaces 17 = .ok (.if_icmp .ge 32, 3) := dk_at bX4_passPlaces_0 8 rfl
theorem dX4_passPlaces_20 : decode cX4_passPlaces 20 = .ok (.aload_n 0, 1) := dk_at bX4_passPlaces_0 9 rfl
theorem dX4_passPlaces_21 : decode cX4_passPlaces 21 = .ok (.getfield 9, 3) := dk_at bX4_passPlaces_0 10 rfl
theorem dX4_passPlaces_24 : decode cX4_passPlaces 24 = .ok (.aload_n 0, 1) := dk_at bX4_passPlaces_0 11 rfl
theorem dX4_passPlaces_25 : decode cX4_passPlaces 25 = .ok (.getfield 19, 3) := dk_at bX4_passPlaces_0 12 rfl
theorem dX4_passPlaces_28 : decode cX4_passPlaces 28 = .ok (.iaload, 1) := dk_at bX4_passPlaces_0 13 rfl
theorem dX4_passPlaces_29 : decode cX4_passPlaces 29 = .ok (.aload_n 0, 1) := dk_at bX4_passPlaces_0 14 rfl
theorem dX4_passPlaces_30 : decode cX4_passPlaces 30 = .ok (.getfield 34, 3) := dk_at bX4_passPlaces_0 15 rfl
theorem dX4_passPlaces_33 : decode cX4_passPlaces 33 = .ok (.if_icmp .ne 16, 3) := dk_at bX4_passPlaces_0 16 rfl
theorem dX4_passPlaces_36 : decode cX4_passPlaces 36 = .ok (.aload_n 0, 1) := dk_at bX4_passPlaces_0 17 rfl
theorem dX4_passPlaces_37 : decode cX4_passPlaces 37 = .ok (.dup, 1) := dk_at bX4_passPlaces_0 18 rfl
theorem dX4_passPlaces_38 : decode cX4_passPlaces 38 = .ok (.getfield 19, 3) := dk_at bX4_passPlaces_0 19 rfl
theorem dX4_passPlaces_41 : decode cX4_passPlaces 41 = .ok (.iconst 1, 1) := dk_at bX4_passPlaces_0 20 rfl
theorem dX4_passPlaces_42 : decode cX4_passPlaces 42 = .ok (.iadd, 1) := dk_at bX4_passPlaces_0 21 rfl
theorem dX4_passPlaces_43 : decode cX4_passPlaces 43 = .ok (.putfield 19, 3) := dk_at bX4_passPlaces_0 22 rfl
theorem dX4_passPlaces_46 : decode cX4_passPlaces 46 = .ok (.goto (-46), 3) := dk_at bX4_passPlaces_0 23 rfl
theorem dX4_passPlaces_49 : decode cX4_passPlaces 49 = .ok (.aload_n 0, 1) := dk_at bX4_passPlaces_0 24 rfl
theorem dX4_passPlaces_50 : decode cX4_passPlaces 50 = .ok (.getfield 19, 3) := dk_at bX4_passPlaces_0 25 rfl
theorem dX4_passPlaces_53 : decode cX4_passPlaces 53 = .ok (.aload_n 0, 1) := dk_at bX4_passPlaces_0 26 rfl
theorem dX4_passPlaces_54 : decode cX4_passPlaces 54 = .ok (.getfield 15, 3) := dk_at bX4_passPlaces_0 27 rfl
theorem dX4_passPlaces_57 : decode cX4_passPlaces 57 = .ok (.if_icmp .lt 8, 3) := dk_at bX4_passPlaces_0 28 rfl
theorem dX4_passPlaces_60 : decode cX4_passPlaces 60 = .ok (.aload_n 0, 1) := dk_at bX4_passPlaces_0 29 rfl
theorem dX4_passPlaces_61 : decode cX4_passPlaces 61 = .ok (.iconst 1, 1) := dk_at bX4_passPlaces_0 30 rfl
theorem dX4_passPlaces_62 : decode cX4_passPlaces 62 = .ok (.putfield 22, 3) := dk_at bX4_passPlaces_0 31 rfl
theorem dX4_passPlaces_65 : decode cX4_passPlaces 65 = .ok (.return_, 1) := dk_at bX4_passPlaces_0 32 rfl
set_option maxRecDepth 20000 in
theorem ggX4_course_X4_rowSign : GoodIn wsX4_course wsX4_rowSign := goodIn_r _ [5, 6, 7, 8, 9, 4, 10, 11, 12, 13, 14, 15, 16, 17, 18, 19, 20, 21, 28, 29, 30, 31, 32, 33, 34, 35, 36, 37, 38, 39, 40, 41, 42, 43] rfl (by decide +kernel)
set_option maxRecDepth 20000 in
theorem gX4_course_X4_rowSign : GoodIn wsX4_course (wsV RX4 150 RX4 yX4_rowSign wsX4_rowSign) := goodIn_app (goodIn_r _ [1, 2, 3, 4] rfl (by decide +kernel)) ggX4_course_X4_rowSign
set_option maxRecDepth 20000 in
theorem ggX4_course_X4_columnSign : GoodIn wsX4_course wsX4_columnSign := goodIn_r _ [25, 6, 7, 8, 9, 4, 10, 11, 12, 13, 14, 15, 26, 27, 18, 19, 20, 21, 28, 29, 30, 31, 32, 33, 34, 35, 36, 37, 38, 39, 40, 41, 42, 43] rfl (by decide +kernel)
set_option maxRecDepth 20000 in
theorem gX4_course_X4_columnSign : GoodIn wsX4_course (wsV RX4 147 RX4 yX4_columnSign wsX4_columnSign) := goodIn_app (goodIn_r _ [22, 23, 24, 4] rfl (by decide +kernel)) ggX4_course_X4_columnSign
set_option maxRecDepth 20000 in
theorem ggX4_course_X11_below : GoodIn wsX4_course wsX11_below := goodIn_r _ [15] rfl (by decide +kernel)
set_option maxRecDepth 20000 in
theorem gX4_course_X11_below_n62 : GoodIn wsX4_course (wsX11_below) := ggX4_course_X11_below
theorem bX4_course_0 : dk cX4_course [(0, .iconst 3, 1), (1, .aload_n 0, 1), (2, .invokevirtual 150, 3), (5, .iconst 1, 1), (6, .iadd, 1), (7, .imul, 1), (8, .aload_n 0, 1), (9, .invokevirtual 147, 3), (12, .iadd, 1), (13, .iconst 1, 1), (14, .iadd, 1), (15, .istore_n 1, 1), (16, .iload_n 1, 1), (17, .bipush 9, 2), (19, .invokestatic 62, 3), (22, .ifCond .eq 11, 3), (25, .getstatic 153, 3), (28, .iload_n 1, 1), (29, .iaload, 1), (30, .goto 4, 3), (33, .iconst 0, 1), (34, .ireturn, 1)] = true := by decide +kernel
theorem dX4_course_0 : decode cX4_course 0 = .ok (.iconst 3, 1) := dk_at bX4_course_0 0 rfl
theorem dX4_course_1 : decode cX4_course 1 = .ok (.aload_n 0, 1) := dk_at bX4_course_0 1 rfl
theorem dX4_course_2 : decode cX4_course 2 = .ok (.invokevirtual 150, 3) := dk_at bX4_course_0 2 rfl
theorem dX4_course_5 : decode cX4_course 5 = .ok (.iconst 1, 1) := dk_at bX4_course_0 3 rfl
theorem dX4_course_6 : decode cX4_course 6 = .ok (.iadd, 1) := dk_at bX4_course_0 4 rfl
theorem dX4_course_7 : decode cX4_course 7 = .ok (.imul, 1) := dk_at bX4_course_0 5 rfl
theorem dX4_course_8 : decode cX4_course 8 = .ok (.aload_n 0, 1) := dk_at bX4_course_0 6 rfl
theorem dX4_course_9 : decode cX4_course 9 = .ok (.invokevirtual 147, 3) := dk_at bX4_course_0 7 rfl
theorem dX4_course_12 : decode cX4_course 12 = .ok (.iadd, 1) := dk_at bX4_course_0 8 rfl
theorem dX4_course_13 : decode cX4_course 13 = .ok (.iconst 1, 1) := dk_at bX4_course_0 9 rfl
theorem dX4_course_14 : decode cX4_course 14 = .ok (.iadd, 1) := dk_at bX4_course_0 10 rfl
theorem dX4_course_15 : decode cX4_course 15 = .ok (.istore_n 1, 1) := dk_at bX4_course_0 11 rfl
theorem dX4_course_16 : decode cX4_course 16 = .ok (.iload_n 1, 1) := dk_at bX4_course_0 12 rfl
theorem dX4_course_17 : decode cX4_course 17 = .ok (.bipush 9, 2) := dk_at bX4_course_0 13 rfl
theorem dX4_course_19 : decode cX4_course 19 = .ok (.invokestatic 62, 3) := dk_at bX4_course_0 14 rfl
theorem dX4_course_22 : decode cX4_course 22 = .ok (.ifCond .eq 11, 3) := dk_at bX4_course_0 15 rfl
theorem dX4_course_25 : decode cX4_course 25 = .ok (.getstatic 153, 3) := dk_at bX4_course_0 16 rfl
theorem dX4_course_28 : decode cX4_course 28 = .ok (.iload_n 1, 1) := dk_at bX4_course_0 17 rfl
theorem dX4_course_29 : decode cX4_course 29 = .ok (.iaload, 1) := dk_at bX4_course_0 18 rfl
theorem dX4_course_30 : decode cX4_course 30 = .ok (.goto 4, 3) := dk_at bX4_course_0 19 rfl
theorem dX4_course_33 : decode cX4_course 33 = .ok (.iconst 0, 1) := dk_at bX4_course_0 20 rfl
theorem dX4_course_34 : decode cX4_course 34 = .ok (.ireturn, 1) := dk_at bX4_course_0 21 rfl
set_option maxRecDepth 20000 in
theorem ggX4_nextPlace_X11_below : GoodIn wsX4_nextPlace wsX11_below := goodIn_r _ [6] rfl (by decide +kernel)
set_option maxRecDepth 20000 in
theorem gX4_nextPlace_X11_below_n62 : GoodIn wsX4_nextPlace (wsX11_below) := ggX4_nextPlace_X11_below
theorem bX4_nextPlace_0 : dk cX4_nextPlace [(0, .aload_n 0, 1), (1, .getfield 19, 3), (4, .bipush 8, 2), (6, .invokestatic 62, 3), (9, .ifCond .eq 15, 3), (12, .aload_n 0, 1), (13, .getfield 9, 3), (16, .aload_n 0, 1), (17, .getfield 19, 3), (20, .iaload, 1), (21, .goto 7, 3), (24, .aload_n 0, 1), (25, .getfield 34, 3), (28, .ireturn, 1)] = true := by decide +kernel
theorem dX4_nextPlace_0 : decode cX4_nextPlace 0 = .ok (.aload_n 0, 1) := dk_at bX4_nextPlace_0 0 rfl
theorem dX4_nextPlace_1 : decode cX4_nextPlace 1 = .ok (.getfield 19, 3) := dk_at bX4_nextPlace_0 1 rfl
theorem dX4_nextPlace_4 : decode cX4_nextPlace 4 = .ok (.bipush 8, 2) := dk_at bX4_nextPlace_0 2 rfl
theorem dX4_nextPlace_6 : decode cX4_nextPlace 6 = .ok (.invokestatic 62, 3) := dk_at bX4_nextPlace_0 3 rfl
theorem dX4_nextPlace_9 : decode cX4_nextPlace 9 = .ok (.ifCond .eq 15, 3) := dk_at bX4_nextPlace_0 4 rfl
theorem dX4_nextPlace_12 : decode cX4_nextPlace 12 = .ok (.aload_n 0, 1) := dk_at bX4_nextPlace_0 5 rfl
theorem dX4_nextPlace_13 : decode cX4_nextPlace 13 = .ok (.getfield 9, 3) := dk_at bX4_nextPlace_0 6 rfl
theorem dX4_nextPlace_16 : decode cX4_nextPlace 16 = .ok (.aload_n 0, 1) := dk_at bX4_nextPlace_0 7 rfl
theorem dX4_nextPlace_17 : decode cX4_nextPlace 17 = .ok (.getfield 19, 3) := dk_at bX4_nextPlace_0 8 rfl
theorem dX4_nextPlace_20 : decode cX4_nextPlace 20 = .ok (.iaload, 1) := dk_at bX4_nextPlace_0 9 rfl
theorem dX4_nextPlace_21 : decode cX4_nextPlace 21 = .ok (.goto 7, 3) := dk_at bX4_nextPlace_0 10 rfl
theorem dX4_nextPlace_24 : decode cX4_nextPlace 24 = .ok (.aload_n 0, 1) := dk_at bX4_nextPlace_0 11 rfl
theorem dX4_nextPlace_25 : decode cX4_nextPlace 25 = .ok (.getfield 34, 3) := dk_at bX4_nextPlace_0 12 rfl
theorem dX4_nextPlace_28 : decode cX4_nextPlace 28 = .ok (.ireturn, 1) := dk_at bX4_nextPlace_0 13 rfl
set_option maxRecDepth 20000 in
theorem ggX4_columnSign_X4_nextPlace : GoodIn wsX4_columnSign wsX4_nextPlace := goodIn_r _ [6, 7, 8, 1, 9, 10, 11, 18, 19, 20, 21, 22, 23, 24, 25, 26, 27, 28, 29, 30, 31, 32, 33] rfl (by decide +kernel)
set_option maxRecDepth 20000 in
theorem gX4_columnSign_X4_nextPlace : GoodIn wsX4_columnSign (wsV RX4 156 RX4 yX4_nextPlace wsX4_nextPlace) := goodIn_app (goodIn_r _ [2, 3, 4, 5] rfl (by decide +kernel)) ggX4_columnSign_X4_nextPlace
set_option maxRecDepth 20000 in
theorem ggX4_columnSign_X11_columnOf : GoodIn wsX4_columnSign wsX11_columnOf := goodIn_r _ [13] rfl (by decide +kernel)
set_option maxRecDepth 20000 in
theorem gX4_columnSign_X11_columnOf_n159 : GoodIn wsX4_columnSign (wsX11_columnOf) := ggX4_columnSign_X11_columnOf
set_option maxRecDepth 20000 in
theorem ggX4_columnSign_J6_compare_7cf53 : GoodIn wsX4_columnSign wsJ6_compare_7cf53 := goodIn_r _ [17] rfl (by decide +kernel)
set_option maxRecDepth 20000 in
theorem gX4_columnSign_J6_compare_7cf53 : GoodIn wsX4_columnSign (va_wsS RX4 162 yJ6_compare_7cf53 wsJ6_compare_7cf53) := goodIn_app (goodIn_r _ [14, 15, 16] rfl (by decide +kernel)) ggX4_columnSign_J6_compare_7cf53
theorem bX4_columnSign_0 : dk cX4_columnSign [(0, .aload_n 0, 1), (1, .invokevirtual 156, 3), (4, .invokestatic 159, 3), (7, .aload_n 0, 1), (8, .getfield 34, 3), (11, .invokestatic 159, 3), (14, .invokestatic 162, 3), (17, .ireturn, 1)] = true := by decide +kernel
theorem dX4_columnSign_0 : decode cX4_columnSign 0 = .ok (.aload_n 0, 1) := dk_at bX4_columnSign_0 0 rfl
theorem dX4_columnSign_1 : decode cX4_columnSign 1 = .ok (.invokevirtual 156, 3) := dk_at bX4_columnSign_0 1 rfl
theorem dX4_columnSign_4 : decode cX4_columnSign 4 = .ok (.invokestatic 159, 3) := dk_at bX4_columnSign_0 2 rfl
theorem dX4_columnSign_7 : decode cX4_columnSign 7 = .ok (.aload_n 0, 1) := dk_at bX4_columnSign_0 3 rfl
theorem dX4_columnSign_8 : decode cX4_columnSign 8 = .ok (.getfield 34, 3) := dk_at bX4_columnSign_0 4 rfl
theorem dX4_columnSign_11 : decode cX4_columnSign 11 = .ok (.invokestatic 159, 3) := dk_at bX4_columnSign_0 5 rfl
theorem dX4_columnSign_14 : decode cX4_columnSign 14 = .ok (.invokestatic 162, 3) := dk_at bX4_columnSign_0 6 rfl
theorem dX4_columnSign_17 : decode cX4_columnSign 17 = .ok (.ireturn, 1) := dk_at bX4_columnSign_0 7 rfl
set_option maxRecDepth 20000 in
theorem ggX4_rowSign_X4_nextPlace : GoodIn wsX4_rowSign wsX4_nextPlace := goodIn_r _ [6, 7, 8, 1, 9, 10, 11, 18, 19, 20, 21, 22, 23, 24, 25, 26, 27, 28, 29, 30, 31, 32, 33] rfl (by decide +kernel)
set_option maxRecDepth 20000 in
theorem gX4_rowSign_X4_nextPlace : GoodIn wsX4_rowSign (wsV RX4 156 RX4 yX4_nextPlace wsX4_nextPlace) := goodIn_app (goodIn_r _ [2, 3, 4, 5] rfl (by decide +kernel)) ggX4_rowSign_X4_nextPlace
set_option maxRecDepth 20000 in
theorem ggX4_rowSign_X11_rowOf : GoodIn wsX4_rowSign wsX11_rowOf := goodIn_r _ [13] rfl (by decide +kernel)
set_option maxRecDepth 20000 in
theorem gX4_rowSign_X11_rowOf_n167 : GoodIn wsX4_rowSign (wsX11_rowOf) := ggX4_rowSign_X11_rowOf
set_option maxRecDepth 20000 in
theorem ggX4_rowSign_J6_compare_7cf53 : GoodIn wsX4_rowSign wsJ6_compare_7cf53 := goodIn_r _ [17] rfl (by decide +kernel)
set_option maxRecDepth 20000 in
theorem gX4_rowSign_J6_compare_7cf53 : GoodIn wsX4_rowSign (va_wsS RX4 162 yJ6_compare_7cf53 wsJ6_compare_7cf53) := goodIn_app (goodIn_r _ [14, 15, 16] rfl (by decide +kernel)) ggX4_rowSign_J6_compare_7cf53
theorem bX4_rowSign_0 : dk cX4_rowSign [(0, .aload_n 0, 1), (1, .invokevirtual 156, 3), (4, .invokestatic 167, 3), (7, .aload_n 0, 1), (8, .getfield 34, 3), (11, .invokestatic 167, 3), (14, .invokestatic 162, 3), (17, .ireturn, 1)] = true := by decide +kernel
theorem dX4_rowSign_0 : decode cX4_rowSign 0 = .ok (.aload_n 0, 1) := dk_at bX4_rowSign_0 0 rfl
theorem dX4_rowSign_1 : decode cX4_rowSign 1 = .ok (.invokevirtual 156, 3) := dk_at bX4_rowSign_0 1 rfl
theorem dX4_rowSign_4 : decode cX4_rowSign 4 = .ok (.invokestatic 167, 3) := dk_at bX4_rowSign_0 2 rfl
theorem dX4_rowSign_7 : decode cX4_rowSign 7 = .ok (.aload_n 0, 1) := dk_at bX4_rowSign_0 3 rfl
theorem dX4_rowSign_8 : decode cX4_rowSign 8 = .ok (.getfield 34, 3) := dk_at bX4_rowSign_0 4 rfl
theorem dX4_rowSign_11 : decode cX4_rowSign 11 = .ok (.invokestatic 167, 3) := dk_at bX4_rowSign_0 5 rfl
theorem dX4_rowSign_14 : decode cX4_rowSign 14 = .ok (.invokestatic 162, 3) := dk_at bX4_rowSign_0 6 rfl
theorem dX4_rowSign_17 : decode cX4_rowSign 17 = .ok (.ireturn, 1) := dk_at bX4_rowSign_0 7 rfl
set_option maxRecDepth 20000 in
theorem ggX5_init_X3_init : GoodIn wsX5_init wsX3_init := goodIn_r _ [19, 20, 2, 3, 6, 21, 22, 23, 24, 25, 34, 35, 36, 37, 38] rfl (by decide +kernel)
set_option maxRecDepth 20000 in
theorem gX5_init_X3_init : GoodIn wsX5_init (wsX3_init) := ggX5_init_X3_init
theorem bX5_init_0 : dk cX5_init [(0, .aload_n 0, 1), (1, .invokespecial 3, 3), (4, .aload_n 0, 1), (5, .sipush 128, 3), (8, .newarray .long, 2), (10, .putfield 9, 3), (13, .aload_n 0, 1), (14, .bipush 7, 2), (16, .newarray .int, 2), (18, .putfield 15, 3), (21, .aload_n 0, 1), (22, .bipush 7, 2), (24, .newarray .int, 2), (26, .putfield 19, 3), (29, .aload_n 0, 1), (30, .iconst 0, 1), (31, .putfield 22, 3), (34, .aload_n 0, 1), (35, .iconst 0, 1), (36, .putfield 26, 3), (39, .aload_n 0, 1), (40, .iconst 0, 1), (41, .putfield 30, 3), (44, .aload_n 0, 1), (45, .aload_n 1, 1), (46, .putfield 33, 3), (49, .aload_n 0, 1), (50, .new 37, 3), (53, .dup, 1), (54, .aload_n 1, 1), (55, .invokespecial 39, 3), (58, .putfield 42, 3), (61, .return_, 1)] = true := by decide +kernel
theorem dX5_init_0 : decode cX5_init 0 = .ok (.aload_n 0, 1) := dk_at bX5_init_0 0 rfl
theorem dX5_init_1 : decode cX5_init 1 = .ok (.invokespecial 3, 3) := dk_at bX5_init_0 1 rfl
theorem dX5_init_4 : decode cX5_init 4 = .ok (.aload_n 0, 1) := dk_at bX5_init_0 2 rfl
theorem dX5_init_5 : decode cX5_init 5 = .ok (.sipush 128, 3) := dk_at bX5_init_0 3 rfl
theorem dX5_init_8 : decode cX5_init 8 = .ok (.newarray .long, 2) := dk_at bX5_init_0 4 rfl
theorem dX5_init_10 : decode cX5_init 10 = .ok (.putfield 9, 3) := dk_at bX5_init_0 5 rfl
theorem dX5_init_13 : decode cX5_init 13 = .ok (.aload_n 0, 1) := dk_at bX5_init_0 6 rfl
theorem dX5_init_14 : decode cX5_init 14 = .ok (.bipush 7, 2) := dk_at bX5_init_0 7 rfl
theorem dX5_init_16 : decode cX5_init 16 = .ok (.newarray .int, 2) := dk_at bX5_init_0 8 rfl
theorem dX5_init_18 : decode cX5_init 18 = .ok (.putfield 15, 3) := dk_at bX5_init_0 9 rfl
theorem dX5_init_21 : decode cX5_init 21 = .ok (.aload_n 0, 1) := dk_at bX5_init_0 10 rfl
theorem dX5_init_22 : decode cX5_init 22 = .ok (.bipush 7, 2) := dk_at bX5_init_0 11 rfl
theorem dX5_init_24 : decode cX5_init 24 = .ok (.newarray .int, 2) := dk_at bX5_init_0 12 rfl
theorem dX5_init_26 : decode cX5_init 26 = .ok (.putfield 19, 3) := dk_at bX5_init_0 13 rfl
theorem dX5_init_29 : decode cX5_init 29 = .ok (.aload_n 0, 1) := dk_at bX5_init_0 14 rfl
theorem dX5_init_30 : decode cX5_init 30 = .ok (.iconst 0, 1) := dk_at bX5_init_0 15 rfl
theorem dX5_init_31 : decode cX5_init 31 = .ok (.putfield 22, 3) := dk_at bX5_init_0 16 rfl
theorem dX5_init_34 : decode cX5_init 34 = .ok (.aload_n 0, 1) := dk_at bX5_init_0 17 rfl
theorem dX5_init_35 : decode cX5_init 35 = .ok (.iconst 0, 1) := dk_at bX5_init_0 18 rfl
theorem dX5_init_36 : decode cX5_init 36 = .ok (.putfield 26, 3) := dk_at bX5_init_0 19 rfl
theorem dX5_init_39 : decode cX5_init 39 = .ok (.aload_n 0, 1) := dk_at bX5_init_0 20 rfl
theorem dX5_init_40 : decode cX5_init 40 = .ok (.iconst 0, 1) := dk_at bX5_init_0 21 rfl
theorem dX5_init_41 : decode cX5_init 41 = .ok (.putfield 30, 3) := dk_at bX5_init_0 22 rfl
theorem dX5_init_44 : decode cX5_init 44 = .ok (.aload_n 0, 1) := dk_at bX5_init_0 23 rfl
theorem dX5_init_45 : decode cX5_init 45 = .ok (.aload_n 1, 1) := dk_at bX5_init_0 24 rfl
theorem dX5_init_46 : decode cX5_init 46 = .ok (.putfield 33, 3) := dk_at bX5_init_0 25 rfl
theorem dX5_init_49 : decode cX5_init 49 = .ok (.aload_n 0, 1) := dk_at bX5_init_0 26 rfl
theorem dX5_init_50 : decode cX5_init 50 = .ok (.new 37, 3) := dk_at bX5_init_0 27 rfl
theorem dX5_init_53 : decode cX5_init 53 = .ok (.dup, 1) := dk_at bX5_init_0 28 rfl
theorem dX5_init_54 : decode cX5_init 54 = .ok (.aload_n 1, 1) := dk_at bX5_init_0 29 rfl
theorem dX5_init_55 : decode cX5_init 55 = .ok (.invokespecial 39, 3) := dk_at bX5_init_0 30 rfl
theorem dX5_init_58 : decode cX5_init 58 = .ok (.putfield 42, 3) := dk_at bX5_init_0 31 rfl
theorem dX5_init_61 : decode cX5_init 61 = .ok (.return_, 1) := dk_at bX5_init_0 32 rfl
set_option maxRecDepth 20000 in
theorem ggX5_make_J7_fill_d0a16 : GoodIn wsX5_make wsJ7_fill_d0a16 := goodIn_r _ [10] rfl (by decide +kernel)
set_option maxRecDepth 20000 in
theorem gX5_make_J7_fill_d0a16 : GoodIn wsX5_make (va_wsS RX5 48 yJ7_fill_d0a16 wsJ7_fill_d0a16) := goodIn_app (goodIn_r _ [7, 8, 9] rfl (by decide +kernel)) ggX5_make_J7_fill_d0a16
set_option maxRecDepth 20000 in
theorem ggX5_make_X3_search : GoodIn wsX5_make wsX3_search := goodIn_r _ [15, 16, 17, 18, 19, 20, 21, 22, 23, 24, 9, 25, 26, 27, 28, 14, 29, 30, 31, 32, 33, 34, 35, 36, 37, 38, 39, 40, 41, 42, 43, 44, 45, 46, 47, 48, 49, 50, 51, 52, 53, 54, 55, 56, 57, 58, 59, 60, 61, 62, 123, 124, 125, 126, 127, 114, 115, 116, 117, 118, 119, 120, 121, 122] rfl (by decide +kernel)
set_option maxRecDepth 20000 in
theorem gX5_make_X3_search : GoodIn wsX5_make (wsV RX5 59 RX3 yX3_search wsX3_search) := goodIn_app (goodIn_r _ [11, 12, 13, 14] rfl (by decide +kernel)) ggX5_make_X3_search
set_option maxRecDepth 20000 in
theorem ggX5_make_X5_joinCrew : GoodIn wsX5_make wsX5_joinCrew := goodIn_r _ [67, 3, 68, 5, 69, 1, 2, 70, 71, 72, 42, 73, 74, 75, 66, 76, 106, 107, 108, 109, 110, 111, 112, 113, 114, 115, 116, 117, 118, 119, 120, 121, 122, 123, 124, 125, 126, 127] rfl (by decide +kernel)
set_option maxRecDepth 20000 in
theorem gX5_make_X5_joinCrew : GoodIn wsX5_make (wsV RX5 63 RX5 yX5_joinCrew wsX5_joinCrew) := goodIn_app (goodIn_r _ [63, 64, 65, 66] rfl (by decide +kernel)) ggX5_make_X5_joinCrew
set_option maxRecDepth 20000 in
theorem ggX5_make_X5_choose : GoodIn wsX5_make wsX5_choose := goodIn_r _ [80, 3, 68, 2, 81, 1, 82, 71, 72, 42, 73, 70, 83, 84, 85, 86, 87, 88, 89, 90, 74, 75, 66, 76, 91, 92, 93, 94, 95, 96, 106, 107, 108, 109, 110, 111, 112, 113, 114, 115, 116, 117, 118, 119, 120, 121, 122] rfl (by decide +kernel)
set_option maxRecDepth 20000 in
theorem gX5_make_X5_choose : GoodIn wsX5_make (wsV RX5 66 RX5 yX5_choose wsX5_choose) := goodIn_app (goodIn_r _ [77, 78, 79, 66] rfl (by decide +kernel)) ggX5_make_X5_choose
set_option maxRecDepth 20000 in
theorem ggX5_make_X5_setDays : GoodIn wsX5_make wsX5_setDays := goodIn_r _ [100, 3, 68, 95, 5, 101, 4, 102, 96, 103, 104, 105, 34, 35, 36, 37, 38, 39, 40, 41, 42, 43, 44, 45, 46, 47, 48, 49, 50, 51, 52, 106, 107, 108, 109, 110, 111, 112, 113, 114, 115, 116, 117, 118, 119, 120, 121, 122, 123, 124, 125, 126, 127] rfl (by decide +kernel)
set_option maxRecDepth 20000 in
theorem gX5_make_X5_setDays : GoodIn wsX5_make (wsV RX5 69 RX5 yX5_setDays wsX5_setDays) := goodIn_app (goodIn_r _ [97, 98, 99, 66] rfl (by decide +kernel)) ggX5_make_X5_setDays
theorem bX5_make_0 : dk cX5_make [(0, .aload_n 0, 1), (1, .getfield 9, 3), (4, .ldc2_w 46, 3), (7, .invokestatic 48, 3), (10, .aload_n 0, 1)] = true := by decide +kernel
theorem dX5_make_0 : decode cX5_make 0 = .ok (.aload_n 0, 1) := dk_at bX5_make_0 0 rfl
theorem dX5_make_1 : decode cX5_make 1 = .ok (.getfield 9, 3) := dk_at bX5_make_0 1 rfl
theorem dX5_make_4 : decode cX5_make 4 = .ok (.ldc2_w 46, 3) := dk_at bX5_make_0 2 rfl
theorem dX5_make_7 : decode cX5_make 7 = .ok (.invokestatic 48, 3) := dk_at bX5_make_0 3 rfl
theorem dX5_make_10 : decode cX5_make 10 = .ok (.aload_n 0, 1) := dk_at bX5_make_0 4 rfl
