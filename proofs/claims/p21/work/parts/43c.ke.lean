set_option maxHeartbeats 4000000 in
set_option maxRecDepth 100000 in
/-- the classes, array classes, strings and static rows of the launch -/
theorem law_ke {s : State} {b : Nat} {A : Nat → Prop} (hts0 : ∀ w ∈ lw_tbl, w.before #[Value.ref b] s = true) (hgv : (Jvm.Cond.and given_1 narrow_1).before #[Value.ref b] s = true) (hA : ∀ a : Nat, a < s.heap.size → ¬ A a) : ∃ E : vE, kn E s ∧ st E A s s.heap := by
  obtain ⟨c0, iS0, hKn0⟩ := u_known (C := RX0) (T := TX0) (N := 6) (n := 6) hts0 inX0 (hts0 (.instantiable RX0 6) (List.mem_of_getElem? (i := 159) (by decide +kernel)))
  obtain ⟨c1, iS1, hKn1⟩ := u_known (C := RX1) (T := TX1) (N := 5) (n := 5) hts0 inX1 (hts0 (.instantiable RX1 5) (List.mem_of_getElem? (i := 190) (by decide +kernel)))
  obtain ⟨c2, iS2, hKn2⟩ := u_known (C := RX2) (T := TX2) (N := 9) (n := 9) hts0 inX2 (hts0 (.instantiable RX2 9) (List.mem_of_getElem? (i := 307) (by decide +kernel)))
  obtain ⟨c3, iS3, hKn3⟩ := u_known (C := RX3) (T := TX3) (N := 5) (n := 5) hts0 inX3 (hts0 (.instantiable RX3 5) (List.mem_of_getElem? (i := 364) (by decide +kernel)))
  obtain ⟨c4, iS4, hKn4⟩ := u_known (C := RX4) (T := TX4) (N := 16) (n := 16) hts0 inX4 (hts0 (.instantiable RX4 16) (List.mem_of_getElem? (i := 219) (by decide +kernel)))
  obtain ⟨c5, iS5, hKn5⟩ := u_known (C := RX5) (T := TX5) (N := 8) (n := 8) hts0 inX5 (hts0 (.instantiable RX5 8) (List.mem_of_getElem? (i := 358) (by decide +kernel)))
  obtain ⟨c6, iS6, hKn6⟩ := u_known (C := RX6) (T := TX6) (N := 3) (n := 3) hts0 inX6 (hts0 (.instantiable RX6 3) (List.mem_of_getElem? (i := 99) (by decide +kernel)))
  obtain ⟨c7, iS7, hKn7⟩ := u_known (C := RX7) (T := TX7) (N := 5) (n := 5) hts0 inX7 (hts0 (.instantiable RX7 5) (List.mem_of_getElem? (i := 165) (by decide +kernel)))
  obtain ⟨c8, iS8, hKn8⟩ := u_known (C := RX8) (T := TX8) (N := 2) (n := 2) hts0 inX8 (hts0 (.instantiable RX8 2) (List.mem_of_getElem? (i := 142) (by decide +kernel)))
  obtain ⟨c9, iS9, hKn9⟩ := u_known (C := RX9) (T := TX9) (N := 2) (n := 2) hts0 inX9 (hts0 (.instantiable RX9 2) (List.mem_of_getElem? (i := 83) (by decide +kernel)))
  obtain ⟨c10, iS10, hKn10⟩ := u_known (C := RX10) (T := TX10) (N := 5) (n := 5) hts0 inX10 (hts0 (.instantiable RX10 5) (List.mem_of_getElem? (i := 105) (by decide +kernel)))
  obtain ⟨c11, iS11, hKn11⟩ := u_known (C := RX11) (T := TX11) (N := 9) (n := 9) hts0 inX11 (hts0 (.instantiable RX11 9) (List.mem_of_getElem? (i := 75) (by decide +kernel)))
  obtain ⟨c12, iS12, hKn12⟩ := u_known (C := RX12) (T := TX12) (N := 59) (n := 59) hts0 inX12 (hts0 (.instantiable RX12 59) (List.mem_of_getElem? (i := 948) (by decide +kernel)))
  obtain ⟨cI, hAI⟩ := arr_of (ty := .int) (fun C h => by cases h) (hts0 (.arrayClass .int) (List.mem_of_getElem? (i := 97) (by decide +kernel)))
  obtain ⟨cZ, hAZ⟩ := arr_of (ty := .boolean) (fun C h => by cases h) (hts0 (.arrayClass .boolean) (List.mem_of_getElem? (i := 188) (by decide +kernel)))
  obtain ⟨cJ, hAJ⟩ := arr_of (ty := .long) (fun C h => by cases h) (hts0 (.arrayClass .long) (List.mem_of_getElem? (i := 387) (by decide +kernel)))
  obtain ⟨cB, hAB⟩ := arr_of (ty := .byte) (fun C h => by cases h) (hts0 (.arrayClass .byte) (List.mem_of_getElem? (i := 639) (by decide +kernel)))
  have hAO : va_AO RX0 s := va_AO.of (hts0 (.arrayOver (.object RX0)) (List.mem_of_getElem? (i := 158) (by decide +kernel)))
  obtain ⟨cO, hAOb⟩ := arr_ofO hAO
  obtain ⟨adK, adV, hSt, hev⟩ := law_str (A := A) hgv hA
  have hs := flat_of_before _ hgv
  have hini : (Cond.initialized RX11).before #[Value.ref b] s = true := hts0 _ (List.mem_of_getElem? (i := 54) (by decide +kernel))
  have hROW_WEIGHTS : st1 "ROW_WEIGHTS" 7 sWf A s s.heap := by
    obtain ⟨t, h1, h2⟩ := va_Tof (A := A) (tm := (.static "BoatsHome" "ROW_WEIGHTS" "[I")) (ty := .int) (N := 7) (f := sWf) (by decide) (hs (.arrayOf (.static "BoatsHome" "ROW_WEIGHTS" "[I") .int) (by decide +kernel)) (va_eqt (hs (.eq (.length (.static "BoatsHome" "ROW_WEIGHTS" "[I")) (.int 7)) (by decide +kernel))) (fun j hj => by
      rcases (show j = 0 ∨ j = 1 ∨ j = 2 ∨ j = 3 ∨ j = 4 ∨ j = 5 ∨ j = 6 by omega) with rfl | rfl | rfl | rfl | rfl | rfl | rfl
      · exact va_eqt (hs (.eq (.elem (.static "BoatsHome" "ROW_WEIGHTS" "[I") (.int 0)) (.int 15625)) (by decide +kernel))
      · exact va_eqt (hs (.eq (.elem (.static "BoatsHome" "ROW_WEIGHTS" "[I") (.int 1)) (.int 3125)) (by decide +kernel))
      · exact va_eqt (hs (.eq (.elem (.static "BoatsHome" "ROW_WEIGHTS" "[I") (.int 2)) (.int 625)) (by decide +kernel))
      · exact va_eqt (hs (.eq (.elem (.static "BoatsHome" "ROW_WEIGHTS" "[I") (.int 3)) (.int 125)) (by decide +kernel))
      · exact va_eqt (hs (.eq (.elem (.static "BoatsHome" "ROW_WEIGHTS" "[I") (.int 4)) (.int 25)) (by decide +kernel))
      · exact va_eqt (hs (.eq (.elem (.static "BoatsHome" "ROW_WEIGHTS" "[I") (.int 5)) (.int 5)) (by decide +kernel))
      · exact va_eqt (hs (.eq (.elem (.static "BoatsHome" "ROW_WEIGHTS" "[I") (.int 6)) (.int 1)) (by decide +kernel))) hA
    exact ⟨t, va_Zref (hts0 (.laysStatic RX11 "ROW_WEIGHTS" "[I") (List.mem_of_getElem? (i := 911) (by decide +kernel))) hini h1 hA, h2⟩
  have hCOURSES : st1 "COURSES" 9 sCf A s s.heap := by
    obtain ⟨t, h1, h2⟩ := va_Tof (A := A) (tm := (.static "BoatsHome" "COURSES" "[I")) (ty := .int) (N := 9) (f := sCf) (by decide) (hs (.arrayOf (.static "BoatsHome" "COURSES" "[I") .int) (by decide +kernel)) (va_eqt (hs (.eq (.length (.static "BoatsHome" "COURSES" "[I")) (.int 9)) (by decide +kernel))) (fun j hj => by
      rcases (show j = 0 ∨ j = 1 ∨ j = 2 ∨ j = 3 ∨ j = 4 ∨ j = 5 ∨ j = 6 ∨ j = 7 ∨ j = 8 by omega) with rfl | rfl | rfl | rfl | rfl | rfl | rfl | rfl | rfl
      · exact va_eqt (hs (.eq (.elem (.static "BoatsHome" "COURSES" "[I") (.int 0)) (.int 7)) (by decide +kernel))
      · exact va_eqt (hs (.eq (.elem (.static "BoatsHome" "COURSES" "[I") (.int 1)) (.int 0)) (by decide +kernel))
      · exact va_eqt (hs (.eq (.elem (.static "BoatsHome" "COURSES" "[I") (.int 2)) (.int 1)) (by decide +kernel))
      · exact va_eqt (hs (.eq (.elem (.static "BoatsHome" "COURSES" "[I") (.int 3)) (.int 6)) (by decide +kernel))
      · exact va_eqt (hs (.eq (.elem (.static "BoatsHome" "COURSES" "[I") (.int 4)) (.int 0)) (by decide +kernel))
      · exact va_eqt (hs (.eq (.elem (.static "BoatsHome" "COURSES" "[I") (.int 5)) (.int 2)) (by decide +kernel))
      · exact va_eqt (hs (.eq (.elem (.static "BoatsHome" "COURSES" "[I") (.int 6)) (.int 5)) (by decide +kernel))
      · exact va_eqt (hs (.eq (.elem (.static "BoatsHome" "COURSES" "[I") (.int 7)) (.int 4)) (by decide +kernel))
      · exact va_eqt (hs (.eq (.elem (.static "BoatsHome" "COURSES" "[I") (.int 8)) (.int 3)) (by decide +kernel))) hA
    exact ⟨t, va_Zref (hts0 (.laysStatic RX11 "COURSES" "[I") (List.mem_of_getElem? (i := 793) (by decide +kernel))) hini h1 hA, h2⟩
  have hBOX_BOUNDS : st1 "BOX_BOUNDS" 6 sBf A s s.heap := by
    obtain ⟨t, h1, h2⟩ := va_Tof (A := A) (tm := (.static "BoatsHome" "BOX_BOUNDS" "[I")) (ty := .int) (N := 6) (f := sBf) (by decide) (hs (.arrayOf (.static "BoatsHome" "BOX_BOUNDS" "[I") .int) (by decide +kernel)) (va_eqt (hs (.eq (.length (.static "BoatsHome" "BOX_BOUNDS" "[I")) (.int 6)) (by decide +kernel))) (fun j hj => by
      rcases (show j = 0 ∨ j = 1 ∨ j = 2 ∨ j = 3 ∨ j = 4 ∨ j = 5 by omega) with rfl | rfl | rfl | rfl | rfl | rfl
      · exact va_eqt (hs (.eq (.elem (.static "BoatsHome" "BOX_BOUNDS" "[I") (.int 0)) (.int 29)) (by decide +kernel))
      · exact va_eqt (hs (.eq (.elem (.static "BoatsHome" "BOX_BOUNDS" "[I") (.int 1)) (.int 19)) (by decide +kernel))
      · exact va_eqt (hs (.eq (.elem (.static "BoatsHome" "BOX_BOUNDS" "[I") (.int 2)) (.int 29)) (by decide +kernel))
      · exact va_eqt (hs (.eq (.elem (.static "BoatsHome" "BOX_BOUNDS" "[I") (.int 3)) (.int 19)) (by decide +kernel))
      · exact va_eqt (hs (.eq (.elem (.static "BoatsHome" "BOX_BOUNDS" "[I") (.int 4)) (.int 359)) (by decide +kernel))
      · exact va_eqt (hs (.eq (.elem (.static "BoatsHome" "BOX_BOUNDS" "[I") (.int 5)) (.int 359)) (by decide +kernel))) hA
    exact ⟨t, va_Zref (hts0 (.laysStatic RX11 "BOX_BOUNDS" "[I") (List.mem_of_getElem? (i := 664) (by decide +kernel))) hini h1 hA, h2⟩
  have hCS : va_Z RJ0 "COMPACT_STRINGS" "Z" (.int 1) A s s.heap := va_Zof (hts0 (.laysStatic "java/lang/String" "COMPACT_STRINGS" "Z") (List.mem_of_getElem? (i := 563) (by decide +kernel))) (hts0 (.initialized "java/lang/String") (List.mem_of_getElem? (i := 69) (by decide +kernel))) (va_eqt (hs (.eq (.static "java/lang/String" "COMPACT_STRINGS" "Z") (.int 1)) (by decide +kernel))) hA
  have hSI : va_Zq RJ3 "SIOOBE_FORMATTER" "Ljava/util/function/BiFunction;" A s s.heap := va_Zqof (hts0 (.laysStatic "jdk/internal/util/Preconditions" "SIOOBE_FORMATTER" "Ljava/util/function/BiFunction;") (List.mem_of_getElem? (i := 579) (by decide +kernel))) (hts0 (.initialized "jdk/internal/util/Preconditions") (List.mem_of_getElem? (i := 71) (by decide +kernel))) (hs (.isRef (.static "jdk/internal/util/Preconditions" "SIOOBE_FORMATTER" "Ljava/util/function/BiFunction;")) (by decide +kernel)) hA
  refine ⟨((fun k => if k = 0 then c0 else if k = 1 then c1 else if k = 2 then c2 else if k = 3 then c3 else if k = 4 then c4 else if k = 5 then c5 else if k = 6 then c6 else if k = 7 then c7 else if k = 8 then c8 else if k = 9 then c9 else if k = 10 then c10 else if k = 11 then c11 else c12, fun k => if k = 0 then iS0 else if k = 1 then iS1 else if k = 2 then iS2 else if k = 3 then iS3 else if k = 4 then iS4 else if k = 5 then iS5 else if k = 6 then iS6 else if k = 7 then iS7 else if k = 8 then iS8 else if k = 9 then iS9 else if k = 10 then iS10 else if k = 11 then iS11 else iS12), fun k => match k with | 0 => cI | 1 => cZ | 2 => cJ | 3 => cB | _ => cO, adK, adV), ⟨⟨?_, ?_⟩, fun w hw => va_Nw.of (List.all_eq_true.mp nest_all w hw) (hts0 w (nest_in w hw)), hAO, ?_⟩, hROW_WEIGHTS, hCOURSES, hBOX_BOUNDS, ⟨hCS, hSI⟩, hSt⟩
  · intro k q hq
    match k, hq with
    | 0, hq => cases hq; exact hKn0
    | 1, hq => cases hq; exact hKn1
    | 2, hq => cases hq; exact hKn2
    | 3, hq => cases hq; exact hKn3
    | 4, hq => cases hq; exact hKn4
    | 5, hq => cases hq; exact hKn5
    | 6, hq => cases hq; exact hKn6
    | 7, hq => cases hq; exact hKn7
    | 8, hq => cases hq; exact hKn8
    | 9, hq => cases hq; exact hKn9
    | 10, hq => cases hq; exact hKn10
    | 11, hq => cases hq; exact hKn11
    | 12, hq => cases hq; exact hKn12
    | k + 13, hq => simp [vwCl] at hq
  · intro k q hq
    match k, hq with
    | 0, hq => cases hq; exact hAI
    | 1, hq => cases hq; exact hAZ
    | 2, hq => cases hq; exact hAJ
    | 3, hq => cases hq; exact hAB
    | 4, hq => cases hq; exact hAOb
    | k + 5, hq => simp [tyv] at hq
  · intro i hi
    rcases (show i = 0 ∨ i = 1 ∨ i = 2 ∨ i = 3 ∨ i = 4 ∨ i = 5 ∨ i = 6 ∨ i = 7 ∨ i = 8 ∨ i = 9 ∨ i = 10 ∨ i = 11 ∨ i = 12 ∨ i = 13 ∨ i = 14 ∨ i = 15 ∨ i = 16 by omega) with rfl | rfl | rfl | rfl | rfl | rfl | rfl | rfl | rfl | rfl | rfl | rfl | rfl | rfl | rfl | rfl | rfl
    · exact vk_R.of (hts0 (.stringRef "BoatsHome$Reader" 64 "when") (List.mem_of_getElem? (i := 549) (by decide +kernel))) (hev 0 (by decide))
    · exact vk_R.of (hts0 (.stringRef "BoatsHome$Reader" 77 "force") (List.mem_of_getElem? (i := 607) (by decide +kernel))) (hev 1 (by decide))
    · exact vk_R.of (hts0 (.stringRef "BoatsHome$Reader" 79 "water") (List.mem_of_getElem? (i := 608) (by decide +kernel))) (hev 2 (by decide))
    · exact vk_R.of (hts0 (.stringRef "BoatsHome$Reader" 81 "day") (List.mem_of_getElem? (i := 609) (by decide +kernel))) (hev 3 (by decide))
    · exact vk_R.of (hts0 (.stringRef "BoatsHome$Reader" 83 "broken") (List.mem_of_getElem? (i := 610) (by decide +kernel))) (hev 4 (by decide))
    · exact vk_R.of (hts0 (.stringRef "BoatsHome$Reader" 89 "above") (List.mem_of_getElem? (i := 615) (by decide +kernel))) (hev 5 (by decide))
    · exact vk_R.of (hts0 (.stringRef "BoatsHome$Reader" 91 "below") (List.mem_of_getElem? (i := 616) (by decide +kernel))) (hev 6 (by decide))
    · exact vk_R.of (hts0 (.stringRef "BoatsHome$Reader" 93 "") (List.mem_of_getElem? (i := 617) (by decide +kernel))) (hev 7 (by decide))
    · exact vk_R.of (hts0 (.stringRef "BoatsHome$Reader" 99 "do") (List.mem_of_getElem? (i := 622) (by decide +kernel))) (hev 8 (by decide))
    · exact vk_R.of (hts0 (.stringRef "BoatsHome$Reader" 104 "wait") (List.mem_of_getElem? (i := 627) (by decide +kernel))) (hev 9 (by decide))
    · exact vk_R.of (hts0 (.stringRef "BoatsHome$Reader" 106 "turn") (List.mem_of_getElem? (i := 628) (by decide +kernel))) (hev 10 (by decide))
    · exact vk_R.of (hts0 (.stringRef "BoatsHome$Reader" 108 "end") (List.mem_of_getElem? (i := 629) (by decide +kernel))) (hev 11 (by decide))
    · exact vk_R.of (hts0 (.stringRef "BoatsHome$Reader" 114 "box") (List.mem_of_getElem? (i := 656) (by decide +kernel))) (hev 12 (by decide))
    · exact vk_R.of (hts0 (.stringRef "BoatsHome$Reader" 136 "from") (List.mem_of_getElem? (i := 661) (by decide +kernel))) (hev 13 (by decide))
    · exact vk_R.of (hts0 (.stringRef "BoatsHome$Reader" 138 "to") (List.mem_of_getElem? (i := 662) (by decide +kernel))) (hev 14 (by decide))
    · exact vk_R.of (hts0 (.stringRef "BoatsHome$Reader" 122 "crew") (List.mem_of_getElem? (i := 665) (by decide +kernel))) (hev 15 (by decide))
    · exact vk_R.of (hts0 (.stringRef "BoatsHomeModel" 158 "when force water day broken above below do wait turn end box from to crew ") (List.mem_of_getElem? (i := 1168) (by decide +kernel))) (hev 16 (by decide))
