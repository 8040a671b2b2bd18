theorem short_lt {L : Nat} (h : L ≤ 5) : Int32.ofNat L - 6 < 0 := by
  rcases (show L = 0 ∨ L = 1 ∨ L = 2 ∨ L = 3 ∨ L = 4 ∨ L = 5 by omega) with rfl | rfl | rfl | rfl | rfl | rfl <;> decide
theorem scr_le {i L : Nat} (hL : L ≤ 3072) (hi : i ≤ L) (c : ¬ Int32.ofNat L - 6 < nI i) : i + 6 ≤ L := by
  rcases Nat.lt_or_ge L 6 with h | h
  · exact absurd (Int32.lt_of_lt_of_le (short_lt (by omega)) (nI_pos' (by omega))) c
  · rw [show Int32.ofNat L - 6 = nI (L - 6) from pk_sub (a := L) (b := 6) h] at c
    have := le_of_ngt (by omega) (by omega) c
    omega
set_option maxHeartbeats 4000000 in
set_option maxRecDepth 100000 in
/-- the loop over the script -/
theorem law_loop {p : Program} {e : Env} {s : State} {m : MethodId} {below : List Frame} {meth : Method} {c : Code} (l : Launch) {b L : Nat} {xs : Nat → Int32} (hL : L ≤ 3072) (C0 : lw_At p s m meth c b L xs) {A : Nat → Prop} (hA : ∀ q : Nat, s.heap.size ≤ q → A q) (hbA : ¬ A b) (hAs : ∀ q : Nat, A q → s.heap.size ≤ q) (E : vE) (hkn : kn E s) (hst : st E A s s.heap) (x0 h1 : Nat) : ∀ (n0 i : Nat) (H : Heap) (locs : List Loc) (ls : Array Slot), L + 6 - i < n0 → i ≤ L → Inv E A x0 h1 H → va_S A s.heap H locs → lv_has ls 4 [(3, .int (nI i)), (2, .ref h1), (1, .ref x0), (0, .ref b)] → W p l e room_1 s m #[Value.ref b] below meth c H locs 600000 7302250 (lw_Z below #[Value.ref b] s) (F0 m 18 ls []) := by
  obtain ⟨hx, hb, hr, hml, hown0, hts0, hX, hbl, hlocks, hgv⟩ := id C0
  have hown : s.vm.findClass RL = some m.cls := hown0
  have hts : ∀ w ∈ wsL_law, w.before #[Value.ref b] s = true := fun w h => hts0 w (wsL_law_in w h)
  have hK := hkn.1
  intro n0
  induction n0 with
  | zero =>
    intro i H locs ls hn0
    exact absurd hn0 (Nat.not_lt_zero _)
  | succ n0 ih =>
    intro i H locs ls hn0 hiL I9 hS hl
    refine lv_iload_n hx hb dL_law_18 rfl (lv_at hl 0 rfl) ?_
    refine lv_aload_n hx hb dL_law_19 rfl (lv_at hl 3 rfl) ?_
    refine va_slen hx hb hX hbl hbA hS dL_law_20 ?_
    refine lv_bipush (v := 6) hx hb dL_law_21 (by decide) ?_
    refine lv_isub hx hb dL_law_23 ?_
    refine lv_topi (fun x_1 ex_1 => ?_)
    refine lv_icmp_gt (tgt := 1035) hx hb dL_law_24 (by decide) (fun c_2 => ?_) (fun c_2 => ?_)
    · refine lv_iconst (v := 1) hx hb dL_law_1035 (by decide) ?_
      refine va_forget (fun q hq => hAs _ (hS.2.2 q hq)) ?_
      exact lw_ret hx hb hr hlocks dL_law_1036
    · have hi6 : i + 6 ≤ L := scr_le hL hiL (by rw [ex_1] at c_2; exact c_2)
      have kk : ∀ (H : Heap) (locs : List Loc) (ls : Array Slot), Inv E A x0 h1 H → va_S A s.heap H locs → lv_has ls 4 [(3, .int (nI i)), (2, .ref h1), (1, .ref x0), (0, .ref b)] → W p l e room_1 s m #[Value.ref b] below meth c H locs 600000 7302250 (lw_Z below #[Value.ref b] s) (F0 m 1029 ls []) := by
        intro H locs ls I9 hS hl
        refine lv_iinc (v := (nI (i + 6))) (lv' := [(3, .int (nI (i + 6))), (2, .ref h1), (1, .ref x0), (0, .ref b)]) hx hb dL_law_1029 hl (k := 0) rfl (show nI i + 6 = nI (i + 6) from nI_add i 6) (by decide) rfl (fun ls hl => ?_)
        refine lv_goto (tgt := 18) hx hb dL_law_1032 (by decide) ?_
        exact ih (i + 6) _ _ _ (by omega) (by omega) I9 hS (lv_sub hl [0, 1, 2, 3] rfl)
      refine lv_aload_n hx hb dL_law_27 rfl (lv_at hl 3 rfl) ?_
      refine lv_iload_n hx hb dL_law_28 rfl (lv_at hl 0 rfl) ?_
      refine va_sld hx hb hX hbl hbA hS (vp_in_nI (by omega) (by omega)) dL_law_29 ?_
      refine lv_topi (fun x_3 ex_3 => ?_)
      obtain rfl : x_3 = xs (i) := ex_3.trans (by rw [nI_clamp (by omega)])
      refine lv_bipush (v := 31) hx hb dL_law_30 (by decide) ?_
      refine lv_iand hx hb dL_law_32 ?_
      refine lv_topi (fun x_4 ex_4 => ?_)
      by_cases c_5 : x_4 = 0
      · refine lv_tableIn (tgt := 140) hx hb dL_law_33 (by rw [c_5]; decide) (by rw [c_5]; decide) (off := 107) (by rw [c_5]; rfl) (by decide) ?_
        exact gl_feed l hL C0 hA hbA i hi6 E hkn hst x0 h1 _ _ I9 hS _ hl kk
      by_cases c_6 : x_4 = 1
      · refine lv_tableIn (tgt := 203) hx hb dL_law_33 (by rw [c_6]; decide) (by rw [c_6]; decide) (off := 170) (by rw [c_6]; rfl) (by decide) ?_
        exact gl_end l hL C0 hA hbA i hi6 E hkn hst x0 h1 _ _ I9 hS _ hl kk
      by_cases c_7 : x_4 = 2
      · refine lv_tableIn (tgt := 226) hx hb dL_law_33 (by rw [c_7]; decide) (by rw [c_7]; decide) (off := 193) (by rw [c_7]; rfl) (by decide) ?_
        exact gl_wind l hL C0 hA hbA i hi6 E hkn hst x0 h1 _ _ I9 hS _ hl kk
      by_cases c_8 : x_4 = 3
      · refine lv_tableIn (tgt := 279) hx hb dL_law_33 (by rw [c_8]; decide) (by rw [c_8]; decide) (off := 246) (by rw [c_8]; rfl) (by decide) ?_
        exact gl_port l hL C0 hA hbA i hi6 E hkn hst x0 h1 _ _ I9 hS _ hl kk
      by_cases c_9 : x_4 = 4
      · refine lv_tableIn (tgt := 312) hx hb dL_law_33 (by rw [c_9]; decide) (by rw [c_9]; decide) (off := 279) (by rw [c_9]; rfl) (by decide) ?_
        exact gl_speed l hL C0 hA hbA i hi6 E hkn hst x0 h1 _ _ I9 hS _ hl kk
      by_cases c_10 : x_4 = 5
      · refine lv_tableIn (tgt := 365) hx hb dL_law_33 (by rw [c_10]; decide) (by rw [c_10]; decide) (off := 332) (by rw [c_10]; rfl) (by decide) ?_
        exact gl_water l hL C0 hA hbA i hi6 E hkn hst x0 h1 _ _ I9 hS _ hl kk
      by_cases c_11 : x_4 = 6
      · refine lv_tableIn (tgt := 398) hx hb dL_law_33 (by rw [c_11]; decide) (by rw [c_11]; decide) (off := 365) (by rw [c_11]; rfl) (by decide) ?_
        exact gl_lasts l hL C0 hA hbA i hi6 E hkn hst x0 h1 _ _ I9 hS _ hl kk
      by_cases c_12 : x_4 = 7
      · refine lv_tableIn (tgt := 441) hx hb dL_law_33 (by rw [c_12]; decide) (by rw [c_12]; decide) (off := 408) (by rw [c_12]; rfl) (by decide) ?_
        exact gl_skipper l hL C0 hA hbA i hi6 E hkn hst x0 h1 _ _ I9 hS _ hl kk
      by_cases c_13 : x_4 = 8
      · refine lv_tableIn (tgt := 464) hx hb dL_law_33 (by rw [c_13]; decide) (by rw [c_13]; decide) (off := 431) (by rw [c_13]; rfl) (by decide) ?_
        exact gl_insurer l hL C0 hA hbA i hi6 E hkn hst x0 h1 _ _ I9 hS _ hl kk
      by_cases c_14 : x_4 = 9
      · refine lv_tableIn (tgt := 487) hx hb dL_law_33 (by rw [c_14]; decide) (by rw [c_14]; decide) (off := 454) (by rw [c_14]; rfl) (by decide) ?_
        exact gl_fault l hL C0 hA hbA i hi6 E hkn hst x0 h1 _ _ I9 hS _ hl kk
      by_cases c_15 : x_4 = 10
      · refine lv_tableIn (tgt := 510) hx hb dL_law_33 (by rw [c_15]; decide) (by rw [c_15]; decide) (off := 477) (by rw [c_15]; rfl) (by decide) ?_
        exact gl_covers l hL C0 hA hbA i hi6 E hkn hst x0 h1 _ _ I9 hS _ hl kk
      by_cases c_16 : x_4 = 11
      · refine lv_tableIn (tgt := 573) hx hb dL_law_33 (by rw [c_16]; decide) (by rw [c_16]; decide) (off := 540) (by rw [c_16]; rfl) (by decide) ?_
        exact gl_begin l hL C0 hA hbA i hi6 E hkn hst x0 h1 _ _ I9 hS _ hl kk
      by_cases c_17 : x_4 = 12
      · refine lv_tableIn (tgt := 626) hx hb dL_law_33 (by rw [c_17]; decide) (by rw [c_17]; decide) (off := 593) (by rw [c_17]; rfl) (by decide) ?_
        exact gl_place l hL C0 hA hbA i hi6 E hkn hst x0 h1 _ _ I9 hS _ hl kk
      by_cases c_18 : x_4 = 13
      · refine lv_tableIn (tgt := 659) hx hb dL_law_33 (by rw [c_18]; decide) (by rw [c_18]; decide) (off := 626) (by rw [c_18]; rfl) (by decide) ?_
        exact gl_sail l hL C0 hA hbA i hi6 E hkn hst x0 h1 _ _ I9 hS _ hl kk
      by_cases c_19 : x_4 = 14
      · refine lv_tableIn (tgt := 692) hx hb dL_law_33 (by rw [c_19]; decide) (by rw [c_19]; decide) (off := 659) (by rw [c_19]; rfl) (by decide) ?_
        exact gl_passage l hL C0 hA hbA i hi6 E hkn hst x0 h1 _ _ I9 hS _ hl kk
      by_cases c_20 : x_4 = 15
      · refine lv_tableIn (tgt := 725) hx hb dL_law_33 (by rw [c_20]; decide) (by rw [c_20]; decide) (off := 692) (by rw [c_20]; rfl) (by decide) ?_
        exact gl_boat l hL C0 hA hbA i hi6 E hkn hst x0 h1 _ _ I9 hS _ hl kk
      by_cases c_21 : x_4 = 16
      · refine lv_tableIn (tgt := 758) hx hb dL_law_33 (by rw [c_21]; decide) (by rw [c_21]; decide) (off := 725) (by rw [c_21]; rfl) (by decide) ?_
        exact gl_pay l hL C0 hA hbA i hi6 E hkn hst x0 h1 _ _ I9 hS _ hl kk
      by_cases c_22 : x_4 = 17
      · refine lv_tableIn (tgt := 821) hx hb dL_law_33 (by rw [c_22]; decide) (by rw [c_22]; decide) (off := 788) (by rw [c_22]; rfl) (by decide) ?_
        exact gl_deliver l hL C0 hA hbA i hi6 E hkn hst x0 h1 _ _ I9 hS _ hl kk
      by_cases c_23 : x_4 = 18
      · refine lv_tableIn (tgt := 884) hx hb dL_law_33 (by rw [c_23]; decide) (by rw [c_23]; decide) (off := 851) (by rw [c_23]; rfl) (by decide) ?_
        exact gl_crew l hL C0 hA hbA i hi6 E hkn hst x0 h1 _ _ I9 hS _ hl kk
      by_cases c_24 : x_4 = 19
      · refine lv_tableIn (tgt := 927) hx hb dL_law_33 (by rw [c_24]; decide) (by rw [c_24]; decide) (off := 894) (by rw [c_24]; rfl) (by decide) ?_
        exact gl_flight l hL C0 hA hbA i hi6 E hkn hst x0 h1 _ _ I9 hS _ hl kk
      by_cases c_25 : x_4 = 20
      · refine lv_tableIn (tgt := 970) hx hb dL_law_33 (by rw [c_25]; decide) (by rw [c_25]; decide) (off := 937) (by rw [c_25]; rfl) (by decide) ?_
        exact gl_plan l hL C0 hA hbA i hi6 E hkn hst x0 h1 _ _ I9 hS _ hl kk
      by_cases c_26 : x_4 = 21
      · refine lv_tableIn (tgt := 983) hx hb dL_law_33 (by rw [c_26]; decide) (by rw [c_26]; decide) (off := 950) (by rw [c_26]; rfl) (by decide) ?_
        exact gl_planned l hL C0 hA hbA i hi6 E hkn hst x0 h1 _ _ I9 hS _ hl kk
      by_cases c_27 : x_4 = 22
      · refine lv_tableIn (tgt := 1006) hx hb dL_law_33 (by rw [c_27]; decide) (by rw [c_27]; decide) (off := 973) (by rw [c_27]; rfl) (by decide) ?_
        exact gl_count l hL C0 hA hbA i hi6 E hkn hst x0 h1 _ _ I9 hS _ hl kk
      refine lv_tableOut (tgt := 1029) hx hb dL_law_33 (by have g0 : ¬ x_4.toInt = 0 := fun h => c_5 (Int32.toInt_inj.mp (h.trans (by decide))); have g1 : ¬ x_4.toInt = 1 := fun h => c_6 (Int32.toInt_inj.mp (h.trans (by decide))); have g2 : ¬ x_4.toInt = 2 := fun h => c_7 (Int32.toInt_inj.mp (h.trans (by decide))); have g3 : ¬ x_4.toInt = 3 := fun h => c_8 (Int32.toInt_inj.mp (h.trans (by decide))); have g4 : ¬ x_4.toInt = 4 := fun h => c_9 (Int32.toInt_inj.mp (h.trans (by decide))); have g5 : ¬ x_4.toInt = 5 := fun h => c_10 (Int32.toInt_inj.mp (h.trans (by decide))); have g6 : ¬ x_4.toInt = 6 := fun h => c_11 (Int32.toInt_inj.mp (h.trans (by decide))); have g7 : ¬ x_4.toInt = 7 := fun h => c_12 (Int32.toInt_inj.mp (h.trans (by decide))); have g8 : ¬ x_4.toInt = 8 := fun h => c_13 (Int32.toInt_inj.mp (h.trans (by decide))); have g9 : ¬ x_4.toInt = 9 := fun h => c_14 (Int32.toInt_inj.mp (h.trans (by decide))); have g10 : ¬ x_4.toInt = 10 := fun h => c_15 (Int32.toInt_inj.mp (h.trans (by decide))); have g11 : ¬ x_4.toInt = 11 := fun h => c_16 (Int32.toInt_inj.mp (h.trans (by decide))); have g12 : ¬ x_4.toInt = 12 := fun h => c_17 (Int32.toInt_inj.mp (h.trans (by decide))); have g13 : ¬ x_4.toInt = 13 := fun h => c_18 (Int32.toInt_inj.mp (h.trans (by decide))); have g14 : ¬ x_4.toInt = 14 := fun h => c_19 (Int32.toInt_inj.mp (h.trans (by decide))); have g15 : ¬ x_4.toInt = 15 := fun h => c_20 (Int32.toInt_inj.mp (h.trans (by decide))); have g16 : ¬ x_4.toInt = 16 := fun h => c_21 (Int32.toInt_inj.mp (h.trans (by decide))); have g17 : ¬ x_4.toInt = 17 := fun h => c_22 (Int32.toInt_inj.mp (h.trans (by decide))); have g18 : ¬ x_4.toInt = 18 := fun h => c_23 (Int32.toInt_inj.mp (h.trans (by decide))); have g19 : ¬ x_4.toInt = 19 := fun h => c_24 (Int32.toInt_inj.mp (h.trans (by decide))); have g20 : ¬ x_4.toInt = 20 := fun h => c_25 (Int32.toInt_inj.mp (h.trans (by decide))); have g21 : ¬ x_4.toInt = 21 := fun h => c_26 (Int32.toInt_inj.mp (h.trans (by decide))); have g22 : ¬ x_4.toInt = 22 := fun h => c_27 (Int32.toInt_inj.mp (h.trans (by decide))); omega) (by decide) ?_
      exact kk _ _ _ I9 hS hl
