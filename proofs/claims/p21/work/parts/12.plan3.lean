set_option maxHeartbeats 4000000 in
set_option maxRecDepth 100000 in
theorem lg_join2 {p : Program} {l : Launch} {e : Env} {s : State} {m : MethodId} {args : Array Value} {below : List Frame} {meth : Method} {c : Code} {Q : State → Prop} {A : Nat → Prop} (E : vE) (h0 : Nat) (of : Nat) (k1 : Nat) (k2 : Nat) (k3 : Nat) (k4 : Nat) (md : Int32) (dn : Int32) (fsu : Int32) (e1 : Nat) (e2 : Nat) (e3 : Nat) (e4 : Nat) (g1 : Nat) (g2 : Nat) (g3 : Nat) (g4 : Nat) (g5 : Nat) (g6 : Nat) (g7 : Nat) (g8 : Nat) (on : Nat) (c1 : Nat → Int32) (cr : Nat) (sv : Nat) (hx : p.tables.exec = Jvm.exec) (hb : c.code = cX5_joinCrew) (hml : c.maxLocals = 7) (hown : s.vm.findClass RX5 = some m.cls) (hts : ∀ w ∈ wsX5_joinCrew, w.before args s = true) (hkn : kn E s) (hst : st E A s s.heap) (hA : ∀ q : Nat, s.heap.size ≤ q → A q) (hcr : cr < 4) (hsv : sv < 128) (kk : ∀ (fj : Nat → Int64) (H : Heap) (locs : List Loc) (ls : Array Slot), va_P E.1 vwCl [(h0, .inr (5, [.ref of, .ref k1, .ref k2, .ref k3, .ref k4, .int md, .int dn, .int fsu])), (of, .inr (2, [.ref g1, .ref g2, .ref g3, .ref g4, .ref g5, .int (nI on), .ref g6, .ref g7, .ref g8])), (k1, .inr (3, [.ref of, .ref e1, .ref e2, .ref e3, .ref e4])), (e1, .inl (E.2.1 0, 512, .inl c1)), (k2, .inl (E.2.1 2, 128, .inr (.inl fj)))] H → va_D A [(h0, .inr (5, [.ref of, .ref k1, .ref k2, .ref k3, .ref k4, .int md, .int dn, .int fsu])), (of, .inr (2, [.ref g1, .ref g2, .ref g3, .ref g4, .ref g5, .int (nI on), .ref g6, .ref g7, .ref g8])), (k1, .inr (3, [.ref of, .ref e1, .ref e2, .ref e3, .ref e4])), (e1, .inl (E.2.1 0, 512, .inl c1)), (k2, .inl (E.2.1 2, 128, .inr (.inl fj)))] → va_S A s.heap H locs → lv_has ls 7 [(0, .ref h0), (1, .int (nI cr)), (2, .int (nI sv))] → W p l e ({ frames := 1, cells := 0, slots := 0, locals := 30 }) s m args below meth c H locs 0 0 Q (F0 m 112 ls [])) : ∀ (n0 : Nat) (pv : Nat) (fj : Nat → Int64) (H : Heap) (locs : List Loc) (ls : Array Slot), pv < n0 → (pv ≤ sv) → va_P E.1 vwCl [(h0, .inr (5, [.ref of, .ref k1, .ref k2, .ref k3, .ref k4, .int md, .int dn, .int fsu])), (of, .inr (2, [.ref g1, .ref g2, .ref g3, .ref g4, .ref g5, .int (nI on), .ref g6, .ref g7, .ref g8])), (k1, .inr (3, [.ref of, .ref e1, .ref e2, .ref e3, .ref e4])), (e1, .inl (E.2.1 0, 512, .inl c1)), (k2, .inl (E.2.1 2, 128, .inr (.inl fj)))] H → va_D A [(h0, .inr (5, [.ref of, .ref k1, .ref k2, .ref k3, .ref k4, .int md, .int dn, .int fsu])), (of, .inr (2, [.ref g1, .ref g2, .ref g3, .ref g4, .ref g5, .int (nI on), .ref g6, .ref g7, .ref g8])), (k1, .inr (3, [.ref of, .ref e1, .ref e2, .ref e3, .ref e4])), (e1, .inl (E.2.1 0, 512, .inl c1)), (k2, .inl (E.2.1 2, 128, .inr (.inl fj)))] → va_S A s.heap H locs → lv_has ls 7 [(0, .ref h0), (1, .int (nI cr)), (2, .int (nI sv)), (3, .int (nI pv))] → W p l e ({ frames := 1, cells := 0, slots := 0, locals := 30 }) s m args below meth c H locs 0 0 Q (F0 m 18 ls []) := by
  have hK := hkn.1
  have hAO := hkn.2.2.1
  have fl9 := hts (.fieldLink RX5 9 "BoatsHome$Plan" "least" "[J") (by first | exact List.mem_of_getElem? (i := 5) rfl | decide +kernel)
  have fl33 := hts (.fieldLink RX5 33 "BoatsHome$Plan" "offers" "LBoatsHome$Offers;") (by first | exact List.mem_of_getElem? (i := 1) rfl | decide +kernel)
  have fl42 := hts (.fieldLink RX5 42 "BoatsHome$Plan" "orders" "LBoatsHome$Orders;") (by first | exact List.mem_of_getElem? (i := 3) rfl | decide +kernel)
  have fl72 := hts (.fieldLink RX5 72 "BoatsHome$Offers" "size" "I") (by first | exact List.mem_of_getElem? (i := 2) rfl | decide +kernel)
  have fl75 := hts (.fieldLink RX5 75 "BoatsHome$Orders" "costs" "[I") (by first | exact List.mem_of_getElem? (i := 4) rfl | decide +kernel)
  have inX2 : ∀ w ∈ u_ws RX2 TX2 9, w ∈ wsX5_joinCrew := by first | exact fun w h9 => (List.mem_cons_of_mem _ (List.mem_append_left _ (List.mem_append_right _ h9))) | decide +kernel
  have inX3 : ∀ w ∈ u_ws RX3 TX3 5, w ∈ wsX5_joinCrew := by first | exact fun w h9 => (List.mem_cons_of_mem _ (List.mem_append_right _ h9)) | decide +kernel
  have inX5 : ∀ w ∈ u_ws RX5 TX5 8, w ∈ wsX5_joinCrew := by first | exact fun w h9 => (List.mem_cons_of_mem _ (List.mem_append_left _ (List.mem_append_left _ (List.mem_append_right _ h9)))) | decide +kernel
  intro n0
  induction n0 with
  | zero =>
    intro pv fj H locs ls hn0
    exact absurd hn0 (Nat.not_lt_zero _)
  | succ n0 ih =>
    intro pv fj H locs ls hn0 hpv hP hD hS hl
    refine lv_iload_n hx hb dX5_joinCrew_18 rfl (lv_at hl 3 rfl) ?_
    refine lv_if_le (tgt := 112) hx hb dX5_joinCrew_19 (by decide) (fun c_1 => ?_) (fun c_1 => ?_)
    · exact kk fj _ _ _  (hP.sub [0, 1, 2, 3, 4] rfl) (hD.sub [0, 1, 2, 3, 4] (by decide) rfl) hS (lv_sub hl [0, 1, 2] rfl)
    · have hp0 : 0 < pv := nle_pos c_1
      refine lv_aload_n hx hb dX5_joinCrew_22 rfl (lv_at hl 0 rfl) ?_
      refine va_get (D := E.1) (ci := 5) (v := .ref k1) (C := RX5) (T := TX5) (N := 8) hx hb hts inX5 hown hK hP 0 rfl rfl 1 (by decide) fl42 (fun _ h9 => h9) rfl dX5_joinCrew_23 ?_
      refine va_get (D := E.1) (ci := 3) (v := .ref e1) (C := RX3) (T := TX3) (N := 5) hx hb hts inX3 hown hK hP 2 rfl rfl 1 (by decide) fl75 (fun _ h9 => h9) rfl dX5_joinCrew_26 ?_
      refine lv_iload_n hx hb dX5_joinCrew_29 rfl (lv_at hl 1 rfl) ?_
      refine lv_sipush (v := 128) hx hb dX5_joinCrew_30 (by decide) ?_
      refine lv_imul hx hb dX5_joinCrew_33 ?_
      refine lv_topi (fun x_2 ex_2 => ?_)
      obtain rfl : x_2 = nI (cr * 128) := ex_2.trans (pk_mul cr 128)
      refine lv_iload_n hx hb dX5_joinCrew_34 rfl (lv_at hl 3 rfl) ?_
      refine lv_iadd hx hb dX5_joinCrew_35 ?_
      refine lv_topi (fun x_3 ex_3 => ?_)
      obtain rfl : x_3 = nI ((cr * 128) + pv) := ex_3.trans (nI_add (cr * 128) pv)
      have hi_4 : vp_in (nI ((cr * 128) + pv)) 512 := vp_in_nI (by omega) (by decide)
      refine va_iald hx hb hK hP 3 0 rfl rfl hi_4 dX5_joinCrew_36 ?_
      refine lv_topi (fun x_5 ex_5 => ?_)
      refine lv_istore (lv' := [(4, .int x_5), (0, .ref h0), (1, .int (nI cr)), (2, .int (nI sv)), (3, .int (nI pv))]) hx hb dX5_joinCrew_37 hl (by decide) rfl (fun ls hl => ?_)
      refine lv_iload hx hb dX5_joinCrew_39 (lv_at hl 0 rfl) ?_
      refine lv_iconst (v := (-1)) hx hb dX5_joinCrew_41 (by decide) ?_
      refine lv_icmp_eq (tgt := 103) hx hb dX5_joinCrew_42 (by decide) (fun c_6 => ?_) (fun c_6 => ?_)
      · refine lv_iload_n hx hb dX5_joinCrew_103 rfl (lv_at hl 4 rfl) ?_
        refine lv_iconst (v := 1) hx hb dX5_joinCrew_104 (by decide) ?_
        refine lv_isub hx hb dX5_joinCrew_105 ?_
        refine lv_topi (fun x_7 ex_7 => ?_)
        obtain rfl : x_7 = nI (pv - 1) := ex_7.trans (nI_dec hp0)
        refine lv_iload_n hx hb dX5_joinCrew_106 rfl (lv_at hl 3 rfl) ?_
        refine lv_iand hx hb dX5_joinCrew_107 ?_
        refine lv_topi (fun x_8 ex_8 => ?_)
        obtain rfl : x_8 = nI ((pv - 1) &&& sv) := ex_8.trans (nI_and (pv - 1) sv)
        refine lv_istore_n (lv' := [(3, .int (nI ((pv - 1) &&& sv))), (4, .int x_5), (0, .ref h0), (1, .int (nI cr)), (2, .int (nI sv))]) hx hb dX5_joinCrew_108 rfl hl (by decide) rfl (fun ls hl => ?_)
        refine lv_goto (tgt := 18) hx hb dX5_joinCrew_109 (by decide) ?_
        exact ih ((pv - 1) &&& sv) fj _ _ _ (by have := @Nat.and_le_left (pv - 1) sv; omega) (by have := @Nat.and_le_left (pv - 1) sv; omega) (hP.sub [0, 1, 2, 3, 4] rfl) (hD.sub [0, 1, 2, 3, 4] (by decide) rfl) hS (lv_sub hl [2, 3, 4, 0] rfl)
      · refine lv_aload_n hx hb dX5_joinCrew_45 rfl (lv_at hl 1 rfl) ?_
        refine va_get (D := E.1) (ci := 5) (v := .ref k2) (C := RX5) (T := TX5) (N := 8) hx hb hts inX5 hown hK hP 0 rfl rfl 2 (by decide) fl9 (fun _ h9 => h9) rfl dX5_joinCrew_46 ?_
        refine lv_iload_n hx hb dX5_joinCrew_49 rfl (lv_at hl 3 rfl) ?_
        refine lv_iload_n hx hb dX5_joinCrew_50 rfl (lv_at hl 4 rfl) ?_
        refine lv_ixor hx hb dX5_joinCrew_51 ?_
        refine lv_topi (fun x_9 ex_9 => ?_)
        obtain rfl : x_9 = nI (sv ^^^ pv) := ex_9.trans (nI_xor sv pv)
        have hi_10 : vp_in (nI (sv ^^^ pv)) 128 := vp_in_nI (Nat.xor_lt_two_pow (n := 7) (by omega) (by omega)) (by decide)
        refine va_lald hx hb hK hP 4 2 rfl rfl hi_10 dX5_joinCrew_52 ?_
        refine lv_topl (fun x_11 ex_11 => ?_)
        refine lv_ldc2 (v := 1152921504606846976) hx hb hown (hts (.constantLong RX5 46 1152921504606846976) (by first | exact List.mem_of_getElem? (i := 6) rfl | decide +kernel)) dX5_joinCrew_53 ?_
        refine W.lcmp hx hb dX5_joinCrew_56 ?_
        refine lv_topi (fun x_12 ex_12 => ?_)
        refine lv_if_ge (tgt := 103) hx hb dX5_joinCrew_57 (by decide) (fun c_13 => ?_) (fun c_13 => ?_)
        · refine lv_iload_n hx hb dX5_joinCrew_103 rfl (lv_at hl 4 rfl) ?_
          refine lv_iconst (v := 1) hx hb dX5_joinCrew_104 (by decide) ?_
          refine lv_isub hx hb dX5_joinCrew_105 ?_
          refine lv_topi (fun x_14 ex_14 => ?_)
          obtain rfl : x_14 = nI (pv - 1) := ex_14.trans (nI_dec hp0)
          refine lv_iload_n hx hb dX5_joinCrew_106 rfl (lv_at hl 3 rfl) ?_
          refine lv_iand hx hb dX5_joinCrew_107 ?_
          refine lv_topi (fun x_15 ex_15 => ?_)
          obtain rfl : x_15 = nI ((pv - 1) &&& sv) := ex_15.trans (nI_and (pv - 1) sv)
          refine lv_istore_n (lv' := [(3, .int (nI ((pv - 1) &&& sv))), (4, .int x_5), (0, .ref h0), (1, .int (nI cr)), (2, .int (nI sv))]) hx hb dX5_joinCrew_108 rfl hl (by decide) rfl (fun ls hl => ?_)
          refine lv_goto (tgt := 18) hx hb dX5_joinCrew_109 (by decide) ?_
          exact ih ((pv - 1) &&& sv) fj _ _ _ (by have := @Nat.and_le_left (pv - 1) sv; omega) (by have := @Nat.and_le_left (pv - 1) sv; omega) (hP.sub [0, 1, 2, 3, 4] rfl) (hD.sub [0, 1, 2, 3, 4] (by decide) rfl) hS (lv_sub hl [2, 3, 4, 0] rfl)
        · refine lv_aload_n hx hb dX5_joinCrew_60 rfl (lv_at hl 1 rfl) ?_
          refine va_get (D := E.1) (ci := 5) (v := .ref k2) (C := RX5) (T := TX5) (N := 8) hx hb hts inX5 hown hK hP 0 rfl rfl 2 (by decide) fl9 (fun _ h9 => h9) rfl dX5_joinCrew_61 ?_
          refine lv_iload_n hx hb dX5_joinCrew_64 rfl (lv_at hl 3 rfl) ?_
          refine lv_iload_n hx hb dX5_joinCrew_65 rfl (lv_at hl 4 rfl) ?_
          refine lv_ixor hx hb dX5_joinCrew_66 ?_
          refine lv_topi (fun x_16 ex_16 => ?_)
          obtain rfl : x_16 = nI (sv ^^^ pv) := ex_16.trans (nI_xor sv pv)
          refine va_lald hx hb hK hP 4 2 rfl rfl hi_10 dX5_joinCrew_67 ?_
          refine lv_topl (fun x_17 ex_17 => ?_)
          refine lv_iload hx hb dX5_joinCrew_68 (lv_at hl 0 rfl) ?_
          refine lv_i2l hx hb dX5_joinCrew_70 rfl ?_
          refine lv_topl (fun x_18 ex_18 => ?_)
          refine lv_ldc2 (v := 78125) hx hb hown (hts (.constantLong RX5 78 78125) (by first | exact List.mem_of_getElem? (i := 7) rfl | decide +kernel)) dX5_joinCrew_71 ?_
          refine lv_lmul hx hb dX5_joinCrew_74 ?_
          refine lv_topl (fun x_19 ex_19 => ?_)
          refine lv_ladd hx hb dX5_joinCrew_75 ?_
          refine lv_topl (fun x_20 ex_20 => ?_)
          refine lv_iload_n hx hb dX5_joinCrew_76 rfl (lv_at hl 2 rfl) ?_
          refine lv_i2l hx hb dX5_joinCrew_77 rfl ?_
          refine lv_topl (fun x_21 ex_21 => ?_)
          refine lv_iload_n hx hb dX5_joinCrew_78 rfl (lv_at hl 4 rfl) ?_
          have hPc := hP.sub (ws' := []) [] rfl
          have hDc := hD.sub (ws' := []) [] (by decide) rfl
          have hFc := va_free (wc := []) hD hS hA [] rfl
          refine va_calll (va_runS (As := [.int (nI pv)]) (rest := [.long x_21, .long x_20]) ⟨hx, hb, hml, hown, hts⟩ (c_X5_weightOf l E (nI pv) H.size ) (va_cwS 1 hts gX5_joinCrew_X5_weightOf rfl rfl rfl hdS_X5_weightOf ⟨Nat.le_of_ble_eq_true rfl, Nat.le_of_ble_eq_true rfl⟩) ⟨pcW_blind, (pcW_pre hPc hkn hDc hst hS hFc)⟩ rfl rfl hl.1 rfl (lv_room (Nat.le_of_ble_eq_true rfl)) dX5_joinCrew_79 ⟨Nat.le_of_ble_eq_true rfl, Nat.le_of_ble_eq_true rfl⟩) hS (fun q _ h => hFc q h) hFc (fun r_22 u t H1 locs ht hvm hw_23 hB hz1 hk1 hS => ?_)
          obtain ⟨hP1, hD1⟩ := hB
          rw [ht] at hP1
          try dsimp only at hw_23
          obtain ⟨hP, hD⟩ := va_join (wr := [(h0, .inr (5, [.ref of, .ref k1, .ref k2, .ref k3, .ref k4, .int md, .int dn, .int fsu])), (of, .inr (2, [.ref g1, .ref g2, .ref g3, .ref g4, .ref g5, .int (nI on), .ref g6, .ref g7, .ref g8])), (k1, .inr (3, [.ref of, .ref e1, .ref e2, .ref e3, .ref e4])), (e1, .inl (E.2.1 0, 512, .inl c1)), (k2, .inl (E.2.1 2, 128, .inr (.inl fj)))]) (w1 := []) hP hD [] [0, 1, 2, 3, 4] rfl rfl (by decide) (by decide) hk1 hFc hP1 hD1
          generalize H1 = H at hP hS ⊢
          have hP : va_P E.1 vwCl [(h0, .inr (5, [.ref of, .ref k1, .ref k2, .ref k3, .ref k4, .int md, .int dn, .int fsu])), (of, .inr (2, [.ref g1, .ref g2, .ref g3, .ref g4, .ref g5, .int (nI on), .ref g6, .ref g7, .ref g8])), (k1, .inr (3, [.ref of, .ref e1, .ref e2, .ref e3, .ref e4])), (e1, .inl (E.2.1 0, 512, .inl c1)), (k2, .inl (E.2.1 2, 128, .inr (.inl fj)))] H := hP
          have hD : va_D A [(h0, .inr (5, [.ref of, .ref k1, .ref k2, .ref k3, .ref k4, .int md, .int dn, .int fsu])), (of, .inr (2, [.ref g1, .ref g2, .ref g3, .ref g4, .ref g5, .int (nI on), .ref g6, .ref g7, .ref g8])), (k1, .inr (3, [.ref of, .ref e1, .ref e2, .ref e3, .ref e4])), (e1, .inl (E.2.1 0, 512, .inl c1)), (k2, .inl (E.2.1 2, 128, .inr (.inl fj)))] := hD
          refine lv_lmul hx hb dX5_joinCrew_82 ?_
          refine lv_topl (fun x_24 ex_24 => ?_)
          refine lv_ladd hx hb dX5_joinCrew_83 ?_
          refine lv_topl (fun x_25 ex_25 => ?_)
          refine lv_lstore (lv' := [(5, .long x_25), (4, .int x_5), (0, .ref h0), (1, .int (nI cr)), (2, .int (nI sv)), (3, .int (nI pv))]) hx hb dX5_joinCrew_84 hl (by decide) rfl (fun ls hl => ?_)
          refine lv_aload_n hx hb dX5_joinCrew_86 rfl (lv_at hl 2 rfl) ?_
          refine va_get (D := E.1) (ci := 5) (v := .ref k2) (C := RX5) (T := TX5) (N := 8) hx hb hts inX5 hown hK hP 0 rfl rfl 2 (by decide) fl9 (fun _ h9 => h9) rfl dX5_joinCrew_87 ?_
          refine lv_iload_n hx hb dX5_joinCrew_90 rfl (lv_at hl 4 rfl) ?_
          refine lv_aload_n hx hb dX5_joinCrew_91 rfl (lv_at hl 2 rfl) ?_
          refine va_get (D := E.1) (ci := 5) (v := .ref k2) (C := RX5) (T := TX5) (N := 8) hx hb hts inX5 hown hK hP 0 rfl rfl 2 (by decide) fl9 (fun _ h9 => h9) rfl dX5_joinCrew_92 ?_
          refine lv_iload_n hx hb dX5_joinCrew_95 rfl (lv_at hl 4 rfl) ?_
          have hi_26 : vp_in (nI sv) 128 := vp_in_nI (by omega) (by decide)
          refine va_lald hx hb hK hP 4 2 rfl rfl hi_26 dX5_joinCrew_96 ?_
          refine lv_topl (fun x_27 ex_27 => ?_)
          refine lv_lload hx hb dX5_joinCrew_97 (lv_at hl 0 rfl) ?_
          refine va_mmin_long hx hb (by rw [hml]; exact hl.1.symm) hown (hts (.methodLink RX5 84 Lib.MathLoose.min_long.x) (by first | exact List.mem_of_getElem? (i := 8) rfl | decide +kernel)) (hts (.static Lib.MathLoose.min_long.x) (by first | exact List.mem_of_getElem? (i := 9) rfl | decide +kernel)) (hts (.initialized "java/lang/Math") (by first | exact List.mem_of_getElem? (i := 10) rfl | decide +kernel)) (hts (.code Lib.MathLoose.min_long.x Lib.MathLoose.min_long.code 4 (some .long)) (by first | exact List.mem_of_getElem? (i := 11) rfl | decide +kernel)) (Nat.le_of_ble_eq_true rfl) (Nat.le_of_ble_eq_true rfl) (Nat.le_of_ble_eq_true rfl) (Nat.le_of_ble_eq_true rfl) dX5_joinCrew_99 ?_
          refine lv_topl (fun x_28 ex_28 => ?_)
          refine va_last hx hb hK hP hD hS 4 2 rfl rfl hi_26 dX5_joinCrew_102 (fun H locs hP hD hS => ?_)
          have hP : va_P E.1 vwCl [(h0, .inr (5, [.ref of, .ref k1, .ref k2, .ref k3, .ref k4, .int md, .int dn, .int fsu])), (of, .inr (2, [.ref g1, .ref g2, .ref g3, .ref g4, .ref g5, .int (nI on), .ref g6, .ref g7, .ref g8])), (k1, .inr (3, [.ref of, .ref e1, .ref e2, .ref e3, .ref e4])), (e1, .inl (E.2.1 0, 512, .inl c1)), (k2, .inl (E.2.1 2, 128, .inr (.inl (vp_updL fj (nI sv).toNatClampNeg x_28))))] H := hP
          have hD : va_D A [(h0, .inr (5, [.ref of, .ref k1, .ref k2, .ref k3, .ref k4, .int md, .int dn, .int fsu])), (of, .inr (2, [.ref g1, .ref g2, .ref g3, .ref g4, .ref g5, .int (nI on), .ref g6, .ref g7, .ref g8])), (k1, .inr (3, [.ref of, .ref e1, .ref e2, .ref e3, .ref e4])), (e1, .inl (E.2.1 0, 512, .inl c1)), (k2, .inl (E.2.1 2, 128, .inr (.inl (vp_updL fj (nI sv).toNatClampNeg x_28))))] := hD
          obtain ⟨f_29, ef_29⟩ : ∃ g : Nat → Int64, g = vp_updL fj (nI sv).toNatClampNeg x_28 := ⟨_, rfl⟩
          rw [← ef_29] at hP hD
          refine lv_iload_n hx hb dX5_joinCrew_103 rfl (lv_at hl 5 rfl) ?_
          refine lv_iconst (v := 1) hx hb dX5_joinCrew_104 (by decide) ?_
          refine lv_isub hx hb dX5_joinCrew_105 ?_
          refine lv_topi (fun x_30 ex_30 => ?_)
          obtain rfl : x_30 = nI (pv - 1) := ex_30.trans (nI_dec hp0)
          refine lv_iload_n hx hb dX5_joinCrew_106 rfl (lv_at hl 4 rfl) ?_
          refine lv_iand hx hb dX5_joinCrew_107 ?_
          refine lv_topi (fun x_31 ex_31 => ?_)
          obtain rfl : x_31 = nI ((pv - 1) &&& sv) := ex_31.trans (nI_and (pv - 1) sv)
          refine lv_istore_n (lv' := [(3, .int (nI ((pv - 1) &&& sv))), (5, .long x_25), (4, .int x_5), (0, .ref h0), (1, .int (nI cr)), (2, .int (nI sv))]) hx hb dX5_joinCrew_108 rfl hl (by decide) rfl (fun ls hl => ?_)
          refine lv_goto (tgt := 18) hx hb dX5_joinCrew_109 (by decide) ?_
          exact ih ((pv - 1) &&& sv) f_29 _ _ _ (by have := @Nat.and_le_left (pv - 1) sv; omega) (by have := @Nat.and_le_left (pv - 1) sv; omega) (hP.sub [0, 1, 2, 3, 4] rfl) (hD.sub [0, 1, 2, 3, 4] (by decide) rfl) hS (lv_sub hl [3, 4, 5, 0] rfl)
set_option maxHeartbeats 4000000 in
set_option maxRecDepth 100000 in
theorem lg_join1 {p : Program} {l : Launch} {e : Env} {s : State} {m : MethodId} {args : Array Value} {below : List Frame} {meth : Method} {c : Code} {Q : State → Prop} {A : Nat → Prop} (E : vE) (h0 : Nat) (of : Nat) (k1 : Nat) (k2 : Nat) (k3 : Nat) (k4 : Nat) (md : Int32) (dn : Int32) (fsu : Int32) (e1 : Nat) (e2 : Nat) (e3 : Nat) (e4 : Nat) (g1 : Nat) (g2 : Nat) (g3 : Nat) (g4 : Nat) (g5 : Nat) (g6 : Nat) (g7 : Nat) (g8 : Nat) (on : Nat) (c1 : Nat → Int32) (cr : Nat) (hx : p.tables.exec = Jvm.exec) (hb : c.code = cX5_joinCrew) (hml : c.maxLocals = 7) (hown : s.vm.findClass RX5 = some m.cls) (hts : ∀ w ∈ wsX5_joinCrew, w.before args s = true) (hkn : kn E s) (hst : st E A s s.heap) (hA : ∀ q : Nat, s.heap.size ≤ q → A q) (hcr : cr < 4) (kk : ∀ (fj : Nat → Int64) (H : Heap) (locs : List Loc) (ls : Array Slot), va_P E.1 vwCl [(h0, .inr (5, [.ref of, .ref k1, .ref k2, .ref k3, .ref k4, .int md, .int dn, .int fsu])), (of, .inr (2, [.ref g1, .ref g2, .ref g3, .ref g4, .ref g5, .int (nI on), .ref g6, .ref g7, .ref g8])), (k1, .inr (3, [.ref of, .ref e1, .ref e2, .ref e3, .ref e4])), (e1, .inl (E.2.1 0, 512, .inl c1)), (k2, .inl (E.2.1 2, 128, .inr (.inl fj)))] H → va_D A [(h0, .inr (5, [.ref of, .ref k1, .ref k2, .ref k3, .ref k4, .int md, .int dn, .int fsu])), (of, .inr (2, [.ref g1, .ref g2, .ref g3, .ref g4, .ref g5, .int (nI on), .ref g6, .ref g7, .ref g8])), (k1, .inr (3, [.ref of, .ref e1, .ref e2, .ref e3, .ref e4])), (e1, .inl (E.2.1 0, 512, .inl c1)), (k2, .inl (E.2.1 2, 128, .inr (.inl fj)))] → va_S A s.heap H locs → lv_has ls 7 [(0, .ref h0)] → W p l e ({ frames := 1, cells := 0, slots := 0, locals := 30 }) s m args below meth c H locs 0 0 Q (F0 m 118 ls [])) : ∀ (n0 : Nat) (sv : Nat) (fj : Nat → Int64) (H : Heap) (locs : List Loc) (ls : Array Slot), sv < n0 → (sv < 128) → va_P E.1 vwCl [(h0, .inr (5, [.ref of, .ref k1, .ref k2, .ref k3, .ref k4, .int md, .int dn, .int fsu])), (of, .inr (2, [.ref g1, .ref g2, .ref g3, .ref g4, .ref g5, .int (nI on), .ref g6, .ref g7, .ref g8])), (k1, .inr (3, [.ref of, .ref e1, .ref e2, .ref e3, .ref e4])), (e1, .inl (E.2.1 0, 512, .inl c1)), (k2, .inl (E.2.1 2, 128, .inr (.inl fj)))] H → va_D A [(h0, .inr (5, [.ref of, .ref k1, .ref k2, .ref k3, .ref k4, .int md, .int dn, .int fsu])), (of, .inr (2, [.ref g1, .ref g2, .ref g3, .ref g4, .ref g5, .int (nI on), .ref g6, .ref g7, .ref g8])), (k1, .inr (3, [.ref of, .ref e1, .ref e2, .ref e3, .ref e4])), (e1, .inl (E.2.1 0, 512, .inl c1)), (k2, .inl (E.2.1 2, 128, .inr (.inl fj)))] → va_S A s.heap H locs → lv_has ls 7 [(0, .ref h0), (1, .int (nI cr)), (2, .int (nI sv))] → W p l e ({ frames := 1, cells := 0, slots := 0, locals := 30 }) s m args below meth c H locs 0 0 Q (F0 m 12 ls []) := by
  have hK := hkn.1
  have hAO := hkn.2.2.1
  have fl9 := hts (.fieldLink RX5 9 "BoatsHome$Plan" "least" "[J") (by first | exact List.mem_of_getElem? (i := 5) rfl | decide +kernel)
  have fl33 := hts (.fieldLink RX5 33 "BoatsHome$Plan" "offers" "LBoatsHome$Offers;") (by first | exact List.mem_of_getElem? (i := 1) rfl | decide +kernel)
  have fl42 := hts (.fieldLink RX5 42 "BoatsHome$Plan" "orders" "LBoatsHome$Orders;") (by first | exact List.mem_of_getElem? (i := 3) rfl | decide +kernel)
  have fl72 := hts (.fieldLink RX5 72 "BoatsHome$Offers" "size" "I") (by first | exact List.mem_of_getElem? (i := 2) rfl | decide +kernel)
  have fl75 := hts (.fieldLink RX5 75 "BoatsHome$Orders" "costs" "[I") (by first | exact List.mem_of_getElem? (i := 4) rfl | decide +kernel)
  have inX2 : ∀ w ∈ u_ws RX2 TX2 9, w ∈ wsX5_joinCrew := by first | exact fun w h9 => (List.mem_cons_of_mem _ (List.mem_append_left _ (List.mem_append_right _ h9))) | decide +kernel
  have inX3 : ∀ w ∈ u_ws RX3 TX3 5, w ∈ wsX5_joinCrew := by first | exact fun w h9 => (List.mem_cons_of_mem _ (List.mem_append_right _ h9)) | decide +kernel
  have inX5 : ∀ w ∈ u_ws RX5 TX5 8, w ∈ wsX5_joinCrew := by first | exact fun w h9 => (List.mem_cons_of_mem _ (List.mem_append_left _ (List.mem_append_left _ (List.mem_append_right _ h9)))) | decide +kernel
  intro n0
  induction n0 with
  | zero =>
    intro sv fj H locs ls hn0
    exact absurd hn0 (Nat.not_lt_zero _)
  | succ n0 ih =>
    intro sv fj H locs ls hn0 hsv hP hD hS hl
    refine lv_iload_n hx hb dX5_joinCrew_12 rfl (lv_at hl 2 rfl) ?_
    refine lv_if_le (tgt := 118) hx hb dX5_joinCrew_13 (by decide) (fun c_1 => ?_) (fun c_1 => ?_)
    · exact kk fj _ _ _  (hP.sub [0, 1, 2, 3, 4] rfl) (hD.sub [0, 1, 2, 3, 4] (by decide) rfl) hS (lv_sub hl [0] rfl)
    · have hs0 : 0 < sv := nle_pos c_1
      refine lv_iload_n hx hb dX5_joinCrew_16 rfl (lv_at hl 2 rfl) ?_
      refine lv_istore_n (lv' := [(3, .int (nI sv)), (0, .ref h0), (1, .int (nI cr)), (2, .int (nI sv))]) hx hb dX5_joinCrew_17 rfl hl (by decide) rfl (fun ls hl => ?_)
      have hPl := hP.sub (ws' := [(h0, .inr (5, [.ref of, .ref k1, .ref k2, .ref k3, .ref k4, .int md, .int dn, .int fsu])), (of, .inr (2, [.ref g1, .ref g2, .ref g3, .ref g4, .ref g5, .int (nI on), .ref g6, .ref g7, .ref g8])), (k1, .inr (3, [.ref of, .ref e1, .ref e2, .ref e3, .ref e4])), (e1, .inl (E.2.1 0, 512, .inl c1)), (k2, .inl (E.2.1 2, 128, .inr (.inl fj)))]) [0, 1, 2, 3, 4] rfl
      have hDl := hD.sub (ws' := [(h0, .inr (5, [.ref of, .ref k1, .ref k2, .ref k3, .ref k4, .int md, .int dn, .int fsu])), (of, .inr (2, [.ref g1, .ref g2, .ref g3, .ref g4, .ref g5, .int (nI on), .ref g6, .ref g7, .ref g8])), (k1, .inr (3, [.ref of, .ref e1, .ref e2, .ref e3, .ref e4])), (e1, .inl (E.2.1 0, 512, .inl c1)), (k2, .inl (E.2.1 2, 128, .inr (.inl fj)))]) [0, 1, 2, 3, 4] (by decide) rfl
      refine lg_join2 E h0 of k1 k2 k3 k4 md dn fsu e1 e2 e3 e4 g1 g2 g3 g4 g5 g6 g7 g8 on c1 cr sv hx hb hml hown hts hkn hst hA hcr hsv (fun n_2 H locs ls  hP hD hS hl => ?_) (sv + 1) sv fj _ _ _ (Nat.lt_succ_self _) (Nat.le_refl _) hPl hDl hS (lv_sub hl [1, 2, 3, 0] rfl)
      have hP : va_P E.1 vwCl [(h0, .inr (5, [.ref of, .ref k1, .ref k2, .ref k3, .ref k4, .int md, .int dn, .int fsu])), (of, .inr (2, [.ref g1, .ref g2, .ref g3, .ref g4, .ref g5, .int (nI on), .ref g6, .ref g7, .ref g8])), (k1, .inr (3, [.ref of, .ref e1, .ref e2, .ref e3, .ref e4])), (e1, .inl (E.2.1 0, 512, .inl c1)), (k2, .inl (E.2.1 2, 128, .inr (.inl n_2)))] H := hP
      have hD : va_D A [(h0, .inr (5, [.ref of, .ref k1, .ref k2, .ref k3, .ref k4, .int md, .int dn, .int fsu])), (of, .inr (2, [.ref g1, .ref g2, .ref g3, .ref g4, .ref g5, .int (nI on), .ref g6, .ref g7, .ref g8])), (k1, .inr (3, [.ref of, .ref e1, .ref e2, .ref e3, .ref e4])), (e1, .inl (E.2.1 0, 512, .inl c1)), (k2, .inl (E.2.1 2, 128, .inr (.inl n_2)))] := hD
      obtain ⟨x_3, ex_3⟩ : ∃ y : Int32, y = (nI sv) + (-1) := ⟨_, rfl⟩
      refine lv_iinc (v := x_3) (lv' := [(2, .int x_3), (0, .ref h0), (1, .int (nI cr))]) hx hb dX5_joinCrew_112 hl (k := 2) rfl (by rw [ex_3]; rfl) (by decide) rfl (fun ls hl => ?_)
      obtain rfl : x_3 = nI (sv - 1) := ex_3.trans (nI_dec2 hs0)
      refine lv_goto (tgt := 12) hx hb dX5_joinCrew_115 (by decide) ?_
      exact ih (sv - 1) n_2 _ _ _ (by omega) (by omega) (hP.sub [0, 1, 2, 3, 4] rfl) (hD.sub [0, 1, 2, 3, 4] (by decide) rfl) hS (lv_sub hl [1, 2, 0] rfl)
set_option maxHeartbeats 4000000 in
set_option maxRecDepth 100000 in
theorem c_X5_joinCrew (l : Launch) (E : vE) (h0 : Nat) (of : Nat) (k1 : Nat) (k2 : Nat) (k3 : Nat) (k4 : Nat) (md : Int32) (dn : Int32) (fsu : Int32) (e1 : Nat) (e2 : Nat) (e3 : Nat) (e4 : Nat) (g1 : Nat) (g2 : Nat) (g3 : Nat) (g4 : Nat) (g5 : Nat) (g6 : Nat) (g7 : Nat) (g8 : Nat) (on : Nat) (c1 : Nat → Int32) (cr : Nat) (fj : Nat → Int64) (sz : Nat) (hcr : cr < 4) (hon : on ≤ 7) : Met l yX5_joinCrew wsX5_joinCrew ({ frames := 1, cells := 0, slots := 0, locals := 30 }) (pcW E [.ref h0, .int (nI cr)] sz [(h0, .inr (5, [.ref of, .ref k1, .ref k2, .ref k3, .ref k4, .int md, .int dn, .int fsu])), (of, .inr (2, [.ref g1, .ref g2, .ref g3, .ref g4, .ref g5, .int (nI on), .ref g6, .ref g7, .ref g8])), (k1, .inr (3, [.ref of, .ref e1, .ref e2, .ref e3, .ref e4])), (e1, .inl (E.2.1 0, 512, .inl c1)), (k2, .inl (E.2.1 2, 128, .inr (.inl fj)))]) (va_Qv (fun (fj2 : (Nat → Int64)) => True) (fun (fj2 : (Nat → Int64)) (t : State) => wB E (va_A [(h0, .inr (5, [.ref of, .ref k1, .ref k2, .ref k3, .ref k4, .int md, .int dn, .int fsu])), (of, .inr (2, [.ref g1, .ref g2, .ref g3, .ref g4, .ref g5, .int (nI on), .ref g6, .ref g7, .ref g8])), (k1, .inr (3, [.ref of, .ref e1, .ref e2, .ref e3, .ref e4])), (e1, .inl (E.2.1 0, 512, .inl c1)), (k2, .inl (E.2.1 2, 128, .inr (.inl fj)))] sz) [(h0, .inr (5, [.ref of, .ref k1, .ref k2, .ref k3, .ref k4, .int md, .int dn, .int fsu])), (of, .inr (2, [.ref g1, .ref g2, .ref g3, .ref g4, .ref g5, .int (nI on), .ref g6, .ref g7, .ref g8])), (k1, .inr (3, [.ref of, .ref e1, .ref e2, .ref e3, .ref e4])), (e1, .inl (E.2.1 0, 512, .inl c1)), (k2, .inl (E.2.1 2, 128, .inr (.inl fj2)))] t) (va_A [(h0, .inr (5, [.ref of, .ref k1, .ref k2, .ref k3, .ref k4, .int md, .int dn, .int fsu])), (of, .inr (2, [.ref g1, .ref g2, .ref g3, .ref g4, .ref g5, .int (nI on), .ref g6, .ref g7, .ref g8])), (k1, .inr (3, [.ref of, .ref e1, .ref e2, .ref e3, .ref e4])), (e1, .inl (E.2.1 0, 512, .inl c1)), (k2, .inl (E.2.1 2, 128, .inr (.inl fj)))] sz)) 0 0 (va_A [(h0, .inr (5, [.ref of, .ref k1, .ref k2, .ref k3, .ref k4, .int md, .int dn, .int fsu])), (of, .inr (2, [.ref g1, .ref g2, .ref g3, .ref g4, .ref g5, .int (nI on), .ref g6, .ref g7, .ref g8])), (k1, .inr (3, [.ref of, .ref e1, .ref e2, .ref e3, .ref e4])), (e1, .inl (E.2.1 0, 512, .inl c1)), (k2, .inl (E.2.1 2, 128, .inr (.inl fj)))] sz) := by
  refine Met.ofW (cc := cX5_joinCrew) (maxL := 7) (ret := none) (by decide) rfl ?_
  intro p e s m args below meth c s₁ B hml hv
  obtain ⟨rfl, hsz, hP, hkn, hD0, hst⟩ := hv
  have hx := B.exec
  have hb := B.bytes
  have hr := B.returns
  have hts := atoms_spec (ws := wsX5_joinCrew) B.pre
  have hown : s.vm.findClass RX5 = some m.cls := findClass_of_methodNamed B.named
  have hlocks := B.notSynchronized
  subst hsz
  have hD := hD0.self (sz := s.heap.size)
  have hK := hkn.1
  have hAO := hkn.2.2.1
  generalize hAe : va_A [(h0, .inr (5, [.ref of, .ref k1, .ref k2, .ref k3, .ref k4, .int md, .int dn, .int fsu])), (of, .inr (2, [.ref g1, .ref g2, .ref g3, .ref g4, .ref g5, .int (nI on), .ref g6, .ref g7, .ref g8])), (k1, .inr (3, [.ref of, .ref e1, .ref e2, .ref e3, .ref e4])), (e1, .inl (E.2.1 0, 512, .inl c1)), (k2, .inl (E.2.1 2, 128, .inr (.inl fj)))] s.heap.size = A at hD hst ⊢
  have hA : ∀ q : Nat, s.heap.size ≤ q → A q := fun q h => by rw [← hAe]; exact Or.inr h
  have hS : va_S A s.heap s.heap [] := va_S.rf
  have hP : va_P E.1 vwCl [(h0, .inr (5, [.ref of, .ref k1, .ref k2, .ref k3, .ref k4, .int md, .int dn, .int fsu])), (of, .inr (2, [.ref g1, .ref g2, .ref g3, .ref g4, .ref g5, .int (nI on), .ref g6, .ref g7, .ref g8])), (k1, .inr (3, [.ref of, .ref e1, .ref e2, .ref e3, .ref e4])), (e1, .inl (E.2.1 0, 512, .inl c1)), (k2, .inl (E.2.1 2, 128, .inr (.inl fj)))] s.heap := hP
  have hl := lv_entry ([.ref h0, .int (nI cr)]) (n := 7) (Nat.le_of_ble_eq_true rfl)
  rw [lg_entry_eq]
  generalize (lg_sl ([.ref h0, .int (nI cr)]) ++ List.replicate (7 - (lg_sl ([.ref h0, .int (nI cr)])).length) Slot.unset).toArray = ls at hl ⊢
  have hl : lv_has ls 7 [(0, .ref h0), (1, .int (nI cr))] := hl
  have fl9 := hts (.fieldLink RX5 9 "BoatsHome$Plan" "least" "[J") (by first | exact List.mem_of_getElem? (i := 5) rfl | decide +kernel)
  have fl33 := hts (.fieldLink RX5 33 "BoatsHome$Plan" "offers" "LBoatsHome$Offers;") (by first | exact List.mem_of_getElem? (i := 1) rfl | decide +kernel)
  have fl42 := hts (.fieldLink RX5 42 "BoatsHome$Plan" "orders" "LBoatsHome$Orders;") (by first | exact List.mem_of_getElem? (i := 3) rfl | decide +kernel)
  have fl72 := hts (.fieldLink RX5 72 "BoatsHome$Offers" "size" "I") (by first | exact List.mem_of_getElem? (i := 2) rfl | decide +kernel)
  have fl75 := hts (.fieldLink RX5 75 "BoatsHome$Orders" "costs" "[I") (by first | exact List.mem_of_getElem? (i := 4) rfl | decide +kernel)
  have inX2 : ∀ w ∈ u_ws RX2 TX2 9, w ∈ wsX5_joinCrew := by first | exact fun w h9 => (List.mem_cons_of_mem _ (List.mem_append_left _ (List.mem_append_right _ h9))) | decide +kernel
  have inX3 : ∀ w ∈ u_ws RX3 TX3 5, w ∈ wsX5_joinCrew := by first | exact fun w h9 => (List.mem_cons_of_mem _ (List.mem_append_right _ h9)) | decide +kernel
  have inX5 : ∀ w ∈ u_ws RX5 TX5 8, w ∈ wsX5_joinCrew := by first | exact fun w h9 => (List.mem_cons_of_mem _ (List.mem_append_left _ (List.mem_append_left _ (List.mem_append_right _ h9)))) | decide +kernel
  refine lv_iconst (v := 1) hx hb dX5_joinCrew_0 (by decide) ?_
  refine lv_aload_n hx hb dX5_joinCrew_1 rfl (lv_at hl 0 rfl) ?_
  refine va_get (D := E.1) (ci := 5) (v := .ref of) (C := RX5) (T := TX5) (N := 8) hx hb hts inX5 hown hK hP 0 rfl rfl 0 (by decide) fl33 (fun _ h9 => h9) rfl dX5_joinCrew_2 ?_
  refine va_get (D := E.1) (ci := 2) (v := .int (nI on)) (C := RX2) (T := TX2) (N := 9) hx hb hts inX2 hown hK hP 1 rfl rfl 5 (by decide) fl72 (fun _ h9 => h9) rfl dX5_joinCrew_5 ?_
  refine lv_ishl hx hb dX5_joinCrew_8 ?_
  refine lv_topi (fun x_1 ex_1 => ?_)
  refine lv_iconst (v := 1) hx hb dX5_joinCrew_9 (by decide) ?_
  refine lv_isub hx hb dX5_joinCrew_10 ?_
  refine lv_topi (fun x_2 ex_2 => ?_)
  obtain ⟨w_3, hw8_4, ew_5⟩ : ∃ w, w < 128 ∧ x_2 = nI w := by rw [ex_2, ex_1]; exact shl_one hon
  subst ew_5
  refine lv_istore_n (lv' := [(2, .int (nI w_3)), (0, .ref h0), (1, .int (nI cr))]) hx hb dX5_joinCrew_11 rfl hl (by decide) rfl (fun ls hl => ?_)
  have hPl := hP.sub (ws' := [(h0, .inr (5, [.ref of, .ref k1, .ref k2, .ref k3, .ref k4, .int md, .int dn, .int fsu])), (of, .inr (2, [.ref g1, .ref g2, .ref g3, .ref g4, .ref g5, .int (nI on), .ref g6, .ref g7, .ref g8])), (k1, .inr (3, [.ref of, .ref e1, .ref e2, .ref e3, .ref e4])), (e1, .inl (E.2.1 0, 512, .inl c1)), (k2, .inl (E.2.1 2, 128, .inr (.inl fj)))]) [0, 1, 2, 3, 4] rfl
  have hDl := hD.sub (ws' := [(h0, .inr (5, [.ref of, .ref k1, .ref k2, .ref k3, .ref k4, .int md, .int dn, .int fsu])), (of, .inr (2, [.ref g1, .ref g2, .ref g3, .ref g4, .ref g5, .int (nI on), .ref g6, .ref g7, .ref g8])), (k1, .inr (3, [.ref of, .ref e1, .ref e2, .ref e3, .ref e4])), (e1, .inl (E.2.1 0, 512, .inl c1)), (k2, .inl (E.2.1 2, 128, .inr (.inl fj)))]) [0, 1, 2, 3, 4] (by decide) rfl
  refine lg_join1 E h0 of k1 k2 k3 k4 md dn fsu e1 e2 e3 e4 g1 g2 g3 g4 g5 g6 g7 g8 on c1 cr hx hb hml hown hts hkn hst hA hcr (fun n_6 H locs ls  hP hD hS hl => ?_) 128 w_3 fj _ _ _ hw8_4 hw8_4 hPl hDl hS (lv_sub hl [1, 2, 0] rfl)
  have hP : va_P E.1 vwCl [(h0, .inr (5, [.ref of, .ref k1, .ref k2, .ref k3, .ref k4, .int md, .int dn, .int fsu])), (of, .inr (2, [.ref g1, .ref g2, .ref g3, .ref g4, .ref g5, .int (nI on), .ref g6, .ref g7, .ref g8])), (k1, .inr (3, [.ref of, .ref e1, .ref e2, .ref e3, .ref e4])), (e1, .inl (E.2.1 0, 512, .inl c1)), (k2, .inl (E.2.1 2, 128, .inr (.inl n_6)))] H := hP
  have hD : va_D A [(h0, .inr (5, [.ref of, .ref k1, .ref k2, .ref k3, .ref k4, .int md, .int dn, .int fsu])), (of, .inr (2, [.ref g1, .ref g2, .ref g3, .ref g4, .ref g5, .int (nI on), .ref g6, .ref g7, .ref g8])), (k1, .inr (3, [.ref of, .ref e1, .ref e2, .ref e3, .ref e4])), (e1, .inl (E.2.1 0, 512, .inl c1)), (k2, .inl (E.2.1 2, 128, .inr (.inl n_6)))] := hD
  have hP9 := hP.sub (ws' := [(h0, .inr (5, [.ref of, .ref k1, .ref k2, .ref k3, .ref k4, .int md, .int dn, .int fsu])), (of, .inr (2, [.ref g1, .ref g2, .ref g3, .ref g4, .ref g5, .int (nI on), .ref g6, .ref g7, .ref g8])), (k1, .inr (3, [.ref of, .ref e1, .ref e2, .ref e3, .ref e4])), (e1, .inl (E.2.1 0, 512, .inl c1)), (k2, .inl (E.2.1 2, 128, .inr (.inl n_6)))]) [0, 1, 2, 3, 4] rfl
  have hD9 := hD.sub (ws' := [(h0, .inr (5, [.ref of, .ref k1, .ref k2, .ref k3, .ref k4, .int md, .int dn, .int fsu])), (of, .inr (2, [.ref g1, .ref g2, .ref g3, .ref g4, .ref g5, .int (nI on), .ref g6, .ref g7, .ref g8])), (k1, .inr (3, [.ref of, .ref e1, .ref e2, .ref e3, .ref e4])), (e1, .inl (E.2.1 0, 512, .inl c1)), (k2, .inl (E.2.1 2, 128, .inr (.inl n_6)))]) [0, 1, 2, 3, 4] (by decide) rfl
  exact W.vret hx hb hr (fun t ht hW => ⟨⟨n_6, rfl, trivial, by rw [ht]; exact hP9, hD9⟩, hS.F ht⟩) hS.2.2 dX5_joinCrew_118
set_option maxHeartbeats 4000000 in
set_option maxRecDepth 100000 in
theorem lg_choose {p : Program} {l : Launch} {e : Env} {s : State} {m : MethodId} {args : Array Value} {below : List Frame} {meth : Method} {c : Code} {Q : State → Prop} {A : Nat → Prop} (E : vE) (h0 : Nat) (of : Nat) (k1 : Nat) (k2 : Nat) (k3 : Nat) (k4 : Nat) (md : Int32) (fsu : Int32) (g1 : Nat) (g2 : Nat) (g3 : Nat) (g4 : Nat) (g5 : Nat) (g6 : Nat) (g7 : Nat) (g8 : Nat) (on : Nat) (fj : Nat → Int64) (f3 : Nat → Int32) (f4 : Nat → Int32) (al : Nat) (hx : p.tables.exec = Jvm.exec) (hb : c.code = cX5_choose) (hml : c.maxLocals = 8) (hown : s.vm.findClass RX5 = some m.cls) (hts : ∀ w ∈ wsX5_choose, w.before args s = true) (hkn : kn E s) (hst : st E A s s.heap) (hA : ∀ q : Nat, s.heap.size ≤ q → A q) (hal : al < 128) (kk : ∀ (bv : Int64) (dn : Int32) (H : Heap) (locs : List Loc) (ls : Array Slot), va_P E.1 vwCl [(h0, .inr (5, [.ref of, .ref k1, .ref k2, .ref k3, .ref k4, .int md, .int dn, .int fsu])), (of, .inr (2, [.ref g1, .ref g2, .ref g3, .ref g4, .ref g5, .int (nI on), .ref g6, .ref g7, .ref g8])), (k2, .inl (E.2.1 2, 128, .inr (.inl fj))), (k3, .inl (E.2.1 0, 7, .inl f3)), (k4, .inl (E.2.1 0, 7, .inl f4))] H → va_D A [(h0, .inr (5, [.ref of, .ref k1, .ref k2, .ref k3, .ref k4, .int md, .int dn, .int fsu])), (of, .inr (2, [.ref g1, .ref g2, .ref g3, .ref g4, .ref g5, .int (nI on), .ref g6, .ref g7, .ref g8])), (k2, .inl (E.2.1 2, 128, .inr (.inl fj))), (k3, .inl (E.2.1 0, 7, .inl f3)), (k4, .inl (E.2.1 0, 7, .inl f4))] → va_S A s.heap H locs → lv_has ls 8 [(0, .ref h0), (2, .long bv)] → W p l e ({ frames := 1, cells := 0, slots := 0, locals := 40 }) s m args below meth c H locs 0 0 Q (F0 m 114 ls [])) : ∀ (n0 : Nat) (sv : Nat) (bv : Int64) (dn : Int32) (H : Heap) (locs : List Loc) (ls : Array Slot), al + 1 - sv < n0 → (sv ≤ al + 1) → va_P E.1 vwCl [(h0, .inr (5, [.ref of, .ref k1, .ref k2, .ref k3, .ref k4, .int md, .int dn, .int fsu])), (of, .inr (2, [.ref g1, .ref g2, .ref g3, .ref g4, .ref g5, .int (nI on), .ref g6, .ref g7, .ref g8])), (k2, .inl (E.2.1 2, 128, .inr (.inl fj))), (k3, .inl (E.2.1 0, 7, .inl f3)), (k4, .inl (E.2.1 0, 7, .inl f4))] H → va_D A [(h0, .inr (5, [.ref of, .ref k1, .ref k2, .ref k3, .ref k4, .int md, .int dn, .int fsu])), (of, .inr (2, [.ref g1, .ref g2, .ref g3, .ref g4, .ref g5, .int (nI on), .ref g6, .ref g7, .ref g8])), (k2, .inl (E.2.1 2, 128, .inr (.inl fj))), (k3, .inl (E.2.1 0, 7, .inl f3)), (k4, .inl (E.2.1 0, 7, .inl f4))] → va_S A s.heap H locs → lv_has ls 8 [(0, .ref h0), (1, .int (nI al)), (2, .long bv), (4, .int (nI sv))] → W p l e ({ frames := 1, cells := 0, slots := 0, locals := 40 }) s m args below meth c H locs 0 0 Q (F0 m 24 ls []) := by
  have hK := hkn.1
  have hAO := hkn.2.2.1
  have fl9 := hts (.fieldLink RX5 9 "BoatsHome$Plan" "least" "[J") (by first | exact List.mem_of_getElem? (i := 5) rfl | decide +kernel)
  have fl26 := hts (.fieldLink RX5 26 "BoatsHome$Plan" "done" "I") (by first | exact List.mem_of_getElem? (i := 4) rfl | decide +kernel)
  have fl30 := hts (.fieldLink RX5 30 "BoatsHome$Plan" "flightSum" "I") (by first | exact List.mem_of_getElem? (i := 12) rfl | decide +kernel)
  have fl33 := hts (.fieldLink RX5 33 "BoatsHome$Plan" "offers" "LBoatsHome$Offers;") (by first | exact List.mem_of_getElem? (i := 1) rfl | decide +kernel)
  have fl72 := hts (.fieldLink RX5 72 "BoatsHome$Offers" "size" "I") (by first | exact List.mem_of_getElem? (i := 2) rfl | decide +kernel)
  have inX2 : ∀ w ∈ u_ws RX2 TX2 9, w ∈ wsX5_choose := by first | exact fun w h9 => (List.mem_cons_of_mem _ (List.mem_append_right _ h9)) | decide +kernel
  have inX5 : ∀ w ∈ u_ws RX5 TX5 8, w ∈ wsX5_choose := by first | exact fun w h9 => (List.mem_cons_of_mem _ (List.mem_append_left _ (List.mem_append_right _ h9))) | decide +kernel
  intro n0
  induction n0 with
  | zero =>
    intro sv bv dn H locs ls hn0
    exact absurd hn0 (Nat.not_lt_zero _)
  | succ n0 ih =>
    intro sv bv dn H locs ls hn0 hs1 hP hD hS hl
    refine lv_iload hx hb dX5_choose_24 (lv_at hl 3 rfl) ?_
    refine lv_iload_n hx hb dX5_choose_26 rfl (lv_at hl 1 rfl) ?_
    refine lv_icmp_gt (tgt := 114) hx hb dX5_choose_27 (by decide) (fun c_1 => ?_) (fun c_1 => ?_)
    · exact kk bv dn _ _ _  (hP.sub [0, 1, 2, 3, 4] rfl) (hD.sub [0, 1, 2, 3, 4] (by decide) rfl) hS (lv_sub hl [0, 2] rfl)
    · have hle : sv ≤ al := le_of_ngt (by omega) (by omega) c_1
      refine lv_iload hx hb dX5_choose_30 (lv_at hl 3 rfl) ?_
      have hPc := hP.sub (ws' := []) [] rfl
      have hDc := hD.sub (ws' := []) [] (by decide) rfl
      have hFc := va_free (wc := []) hD hS hA [] rfl
      refine va_calli (va_runS (As := [.int (nI sv)]) (rest := []) ⟨hx, hb, hml, hown, hts⟩ (c_J6_bitCount_0f7a4 l E (nI sv) H.size ) (va_cwS 1 hts gX5_choose_J6_bitCount_0f7a4 rfl rfl rfl hdS_J6_bitCount_0f7a4 ⟨Nat.le_of_ble_eq_true rfl, Nat.le_of_ble_eq_true rfl⟩) ⟨pcW_blind, (pcW_pre hPc hkn hDc hst hS hFc)⟩ rfl rfl hl.1 rfl (lv_room (Nat.le_of_ble_eq_true rfl)) dX5_choose_32 ⟨Nat.le_of_ble_eq_true rfl, Nat.le_of_ble_eq_true rfl⟩) hS (fun q _ h => hFc q h) hFc (fun r_2 u t H1 locs ht hvm hw_3 hB hz1 hk1 hS => ?_)
      obtain ⟨hP1, hD1⟩ := hB
      rw [ht] at hP1
      try dsimp only at hw_3
      obtain ⟨hP, hD⟩ := va_join (wr := [(h0, .inr (5, [.ref of, .ref k1, .ref k2, .ref k3, .ref k4, .int md, .int dn, .int fsu])), (of, .inr (2, [.ref g1, .ref g2, .ref g3, .ref g4, .ref g5, .int (nI on), .ref g6, .ref g7, .ref g8])), (k2, .inl (E.2.1 2, 128, .inr (.inl fj))), (k3, .inl (E.2.1 0, 7, .inl f3)), (k4, .inl (E.2.1 0, 7, .inl f4))]) (w1 := []) hP hD [] [0, 1, 2, 3, 4] rfl rfl (by decide) (by decide) hk1 hFc hP1 hD1
      generalize H1 = H at hP hS ⊢
      have hP : va_P E.1 vwCl [(h0, .inr (5, [.ref of, .ref k1, .ref k2, .ref k3, .ref k4, .int md, .int dn, .int fsu])), (of, .inr (2, [.ref g1, .ref g2, .ref g3, .ref g4, .ref g5, .int (nI on), .ref g6, .ref g7, .ref g8])), (k2, .inl (E.2.1 2, 128, .inr (.inl fj))), (k3, .inl (E.2.1 0, 7, .inl f3)), (k4, .inl (E.2.1 0, 7, .inl f4))] H := hP
      have hD : va_D A [(h0, .inr (5, [.ref of, .ref k1, .ref k2, .ref k3, .ref k4, .int md, .int dn, .int fsu])), (of, .inr (2, [.ref g1, .ref g2, .ref g3, .ref g4, .ref g5, .int (nI on), .ref g6, .ref g7, .ref g8])), (k2, .inl (E.2.1 2, 128, .inr (.inl fj))), (k3, .inl (E.2.1 0, 7, .inl f3)), (k4, .inl (E.2.1 0, 7, .inl f4))] := hD
      refine lv_istore (lv' := [(5, .int r_2), (0, .ref h0), (1, .int (nI al)), (2, .long bv), (4, .int (nI sv))]) hx hb dX5_choose_35 hl (by decide) rfl (fun ls hl => ?_)
      refine lv_aload_n hx hb dX5_choose_37 rfl (lv_at hl 1 rfl) ?_
      refine va_get (D := E.1) (ci := 5) (v := .ref k2) (C := RX5) (T := TX5) (N := 8) hx hb hts inX5 hown hK hP 0 rfl rfl 2 (by decide) fl9 (fun _ h9 => h9) rfl dX5_choose_38 ?_
      refine lv_iload hx hb dX5_choose_41 (lv_at hl 4 rfl) ?_
      have hi_4 : vp_in (nI sv) 128 := vp_in_nI (by omega) (by decide)
      refine va_lald hx hb hK hP 2 2 rfl rfl hi_4 dX5_choose_43 ?_
      refine lv_topl (fun x_5 ex_5 => ?_)
      refine lv_ldc2 (v := 1152921504606846976) hx hb hown (hts (.constantLong RX5 46 1152921504606846976) (by first | exact List.mem_of_getElem? (i := 3) rfl | decide +kernel)) dX5_choose_44 ?_
      refine W.lcmp hx hb dX5_choose_47 ?_
      refine lv_topi (fun x_6 ex_6 => ?_)
      refine lv_if_ge (tgt := 108) hx hb dX5_choose_48 (by decide) (fun c_7 => ?_) (fun c_7 => ?_)
      · refine lv_iinc (v := (nI (sv + 1))) (lv' := [(4, .int (nI (sv + 1))), (5, .int r_2), (0, .ref h0), (1, .int (nI al)), (2, .long bv)]) hx hb dX5_choose_108 hl (k := 4) rfl (show nI sv + 1 = nI (sv + 1) from nI_1 sv) (by decide) rfl (fun ls hl => ?_)
        refine lv_goto (tgt := 24) hx hb dX5_choose_111 (by decide) ?_
        exact ih (sv + 1) bv dn _ _ _ (by omega) (by omega) (hP.sub [0, 1, 2, 3, 4] rfl) (hD.sub [0, 1, 2, 3, 4] (by decide) rfl) hS (lv_sub hl [2, 3, 4, 0] rfl)
      · refine lv_iload hx hb dX5_choose_51 (lv_at hl 0 rfl) ?_
        refine lv_aload_n hx hb dX5_choose_53 rfl (lv_at hl 1 rfl) ?_
        refine va_get (D := E.1) (ci := 5) (v := .int dn) (C := RX5) (T := TX5) (N := 8) hx hb hts inX5 hown hK hP 0 rfl rfl 6 (by decide) fl26 (fun _ h9 => h9) rfl dX5_choose_54 ?_
        refine lv_icmp_lt (tgt := 108) hx hb dX5_choose_57 (by decide) (fun c_8 => ?_) (fun c_8 => ?_)
        · refine lv_iinc (v := (nI (sv + 1))) (lv' := [(4, .int (nI (sv + 1))), (5, .int r_2), (0, .ref h0), (1, .int (nI al)), (2, .long bv)]) hx hb dX5_choose_108 hl (k := 4) rfl (show nI sv + 1 = nI (sv + 1) from nI_1 sv) (by decide) rfl (fun ls hl => ?_)
          refine lv_goto (tgt := 24) hx hb dX5_choose_111 (by decide) ?_
          exact ih (sv + 1) bv dn _ _ _ (by omega) (by omega) (hP.sub [0, 1, 2, 3, 4] rfl) (hD.sub [0, 1, 2, 3, 4] (by decide) rfl) hS (lv_sub hl [2, 3, 4, 0] rfl)
        · refine lv_aload_n hx hb dX5_choose_60 rfl (lv_at hl 1 rfl) ?_
          refine va_get (D := E.1) (ci := 5) (v := .ref k2) (C := RX5) (T := TX5) (N := 8) hx hb hts inX5 hown hK hP 0 rfl rfl 2 (by decide) fl9 (fun _ h9 => h9) rfl dX5_choose_61 ?_
          refine lv_iload hx hb dX5_choose_64 (lv_at hl 4 rfl) ?_
          refine va_lald hx hb hK hP 2 2 rfl rfl hi_4 dX5_choose_66 ?_
          refine lv_topl (fun x_9 ex_9 => ?_)
          refine lv_ldc2 (v := 4) hx hb hown (hts (.constantLong RX5 96 4) (by first | exact List.mem_of_getElem? (i := 6) rfl | decide +kernel)) dX5_choose_67 ?_
          refine lv_iload_n hx hb dX5_choose_70 rfl (lv_at hl 2 rfl) ?_
          refine lv_iload hx hb dX5_choose_71 (lv_at hl 4 rfl) ?_
          refine lv_ixor hx hb dX5_choose_73 ?_
          refine lv_topi (fun x_10 ex_10 => ?_)
          obtain rfl : x_10 = nI (al ^^^ sv) := ex_10.trans (nI_xor al sv)
          have hPc := hP.sub (ws' := []) [] rfl
          have hDc := hD.sub (ws' := []) [] (by decide) rfl
          have hFc := va_free (wc := []) hD hS hA [] rfl
          refine va_calll (va_runS (As := [.int (nI (al ^^^ sv))]) (rest := [.long 4, .long x_9]) ⟨hx, hb, hml, hown, hts⟩ (c_X5_weightOf l E (nI (al ^^^ sv)) H.size ) (va_cwS 1 hts gX5_choose_X5_weightOf rfl rfl rfl hdS_X5_weightOf ⟨Nat.le_of_ble_eq_true rfl, Nat.le_of_ble_eq_true rfl⟩) ⟨pcW_blind, (pcW_pre hPc hkn hDc hst hS hFc)⟩ rfl rfl hl.1 rfl (lv_room (Nat.le_of_ble_eq_true rfl)) dX5_choose_74 ⟨Nat.le_of_ble_eq_true rfl, Nat.le_of_ble_eq_true rfl⟩) hS (fun q _ h => hFc q h) hFc (fun r_11 u t H1 locs ht hvm hw_12 hB hz1 hk1 hS => ?_)
          obtain ⟨hP1, hD1⟩ := hB
          rw [ht] at hP1
          try dsimp only at hw_12
          obtain ⟨hP, hD⟩ := va_join (wr := [(h0, .inr (5, [.ref of, .ref k1, .ref k2, .ref k3, .ref k4, .int md, .int dn, .int fsu])), (of, .inr (2, [.ref g1, .ref g2, .ref g3, .ref g4, .ref g5, .int (nI on), .ref g6, .ref g7, .ref g8])), (k2, .inl (E.2.1 2, 128, .inr (.inl fj))), (k3, .inl (E.2.1 0, 7, .inl f3)), (k4, .inl (E.2.1 0, 7, .inl f4))]) (w1 := []) hP hD [] [0, 1, 2, 3, 4] rfl rfl (by decide) (by decide) hk1 hFc hP1 hD1
          generalize H1 = H at hP hS ⊢
          have hP : va_P E.1 vwCl [(h0, .inr (5, [.ref of, .ref k1, .ref k2, .ref k3, .ref k4, .int md, .int dn, .int fsu])), (of, .inr (2, [.ref g1, .ref g2, .ref g3, .ref g4, .ref g5, .int (nI on), .ref g6, .ref g7, .ref g8])), (k2, .inl (E.2.1 2, 128, .inr (.inl fj))), (k3, .inl (E.2.1 0, 7, .inl f3)), (k4, .inl (E.2.1 0, 7, .inl f4))] H := hP
          have hD : va_D A [(h0, .inr (5, [.ref of, .ref k1, .ref k2, .ref k3, .ref k4, .int md, .int dn, .int fsu])), (of, .inr (2, [.ref g1, .ref g2, .ref g3, .ref g4, .ref g5, .int (nI on), .ref g6, .ref g7, .ref g8])), (k2, .inl (E.2.1 2, 128, .inr (.inl fj))), (k3, .inl (E.2.1 0, 7, .inl f3)), (k4, .inl (E.2.1 0, 7, .inl f4))] := hD
          refine lv_lmul hx hb dX5_choose_77 ?_
          refine lv_topl (fun x_13 ex_13 => ?_)
          refine lv_ladd hx hb dX5_choose_78 ?_
          refine lv_topl (fun x_14 ex_14 => ?_)
          refine lv_lstore (lv' := [(6, .long x_14), (5, .int r_2), (0, .ref h0), (1, .int (nI al)), (2, .long bv), (4, .int (nI sv))]) hx hb dX5_choose_79 hl (by decide) rfl (fun ls hl => ?_)
          refine lv_iload hx hb dX5_choose_81 (lv_at hl 1 rfl) ?_
          refine lv_aload_n hx hb dX5_choose_83 rfl (lv_at hl 2 rfl) ?_
          refine va_get (D := E.1) (ci := 5) (v := .int dn) (C := RX5) (T := TX5) (N := 8) hx hb hts inX5 hown hK hP 0 rfl rfl 6 (by decide) fl26 (fun _ h9 => h9) rfl dX5_choose_84 ?_
          refine lv_icmp_le (tgt := 95) hx hb dX5_choose_87 (by decide) (fun c_15 => ?_) (fun c_15 => ?_)
          · refine lv_lload_n hx hb dX5_choose_95 rfl (lv_at hl 4 rfl) ?_
            refine lv_lload hx hb dX5_choose_96 (lv_at hl 0 rfl) ?_
            refine va_mmin_long hx hb (by rw [hml]; exact hl.1.symm) hown (hts (.methodLink RX5 84 Lib.MathLoose.min_long.x) (by first | exact List.mem_of_getElem? (i := 7) rfl | decide +kernel)) (hts (.static Lib.MathLoose.min_long.x) (by first | exact List.mem_of_getElem? (i := 8) rfl | decide +kernel)) (hts (.initialized "java/lang/Math") (by first | exact List.mem_of_getElem? (i := 9) rfl | decide +kernel)) (hts (.code Lib.MathLoose.min_long.x Lib.MathLoose.min_long.code 4 (some .long)) (by first | exact List.mem_of_getElem? (i := 10) rfl | decide +kernel)) (Nat.le_of_ble_eq_true rfl) (Nat.le_of_ble_eq_true rfl) (Nat.le_of_ble_eq_true rfl) (Nat.le_of_ble_eq_true rfl) dX5_choose_98 ?_
            refine lv_topl (fun x_16 ex_16 => ?_)
            refine lv_lstore_n (lv' := [(2, .long x_16), (6, .long x_14), (5, .int r_2), (0, .ref h0), (1, .int (nI al)), (4, .int (nI sv))]) hx hb dX5_choose_101 rfl hl (by decide) rfl (fun ls hl => ?_)
            refine lv_aload_n hx hb dX5_choose_102 rfl (lv_at hl 3 rfl) ?_
            refine lv_iload hx hb dX5_choose_103 (lv_at hl 2 rfl) ?_
            refine va_put (D := E.1) (ci := 5) (v := .int r_2) (ty := .int) (C := RX5) (T := TX5) (N := 8) hx hb hts inX5 tyX5 tyX5_ok nmX5 hown hK hP hD hS 0 rfl rfl 6 (by decide) fl26 (fun _ h9 => h9) rfl (by decide +kernel) rfl rfl (Nat.le_of_ble_eq_true rfl) dX5_choose_105 (fun H locs hP hD hS => ?_)
            have hP : va_P E.1 vwCl [(h0, .inr (5, [.ref of, .ref k1, .ref k2, .ref k3, .ref k4, .int md, .int r_2, .int fsu])), (of, .inr (2, [.ref g1, .ref g2, .ref g3, .ref g4, .ref g5, .int (nI on), .ref g6, .ref g7, .ref g8])), (k2, .inl (E.2.1 2, 128, .inr (.inl fj))), (k3, .inl (E.2.1 0, 7, .inl f3)), (k4, .inl (E.2.1 0, 7, .inl f4))] H := hP
            have hD : va_D A [(h0, .inr (5, [.ref of, .ref k1, .ref k2, .ref k3, .ref k4, .int md, .int r_2, .int fsu])), (of, .inr (2, [.ref g1, .ref g2, .ref g3, .ref g4, .ref g5, .int (nI on), .ref g6, .ref g7, .ref g8])), (k2, .inl (E.2.1 2, 128, .inr (.inl fj))), (k3, .inl (E.2.1 0, 7, .inl f3)), (k4, .inl (E.2.1 0, 7, .inl f4))] := hD
            refine lv_iinc (v := (nI (sv + 1))) (lv' := [(4, .int (nI (sv + 1))), (2, .long x_16), (6, .long x_14), (5, .int r_2), (0, .ref h0), (1, .int (nI al))]) hx hb dX5_choose_108 hl (k := 5) rfl (show nI sv + 1 = nI (sv + 1) from nI_1 sv) (by decide) rfl (fun ls hl => ?_)
            refine lv_goto (tgt := 24) hx hb dX5_choose_111 (by decide) ?_
            exact ih (sv + 1) x_16 r_2 _ _ _ (by omega) (by omega) (hP.sub [0, 1, 2, 3, 4] rfl) (hD.sub [0, 1, 2, 3, 4] (by decide) rfl) hS (lv_sub hl [4, 5, 1, 0] rfl)
          · refine lv_lload hx hb dX5_choose_90 (lv_at hl 0 rfl) ?_
            refine lv_goto (tgt := 101) hx hb dX5_choose_92 (by decide) ?_
            refine lv_lstore_n (lv' := [(2, .long x_14), (6, .long x_14), (5, .int r_2), (0, .ref h0), (1, .int (nI al)), (4, .int (nI sv))]) hx hb dX5_choose_101 rfl hl (by decide) rfl (fun ls hl => ?_)
            refine lv_aload_n hx hb dX5_choose_102 rfl (lv_at hl 3 rfl) ?_
            refine lv_iload hx hb dX5_choose_103 (lv_at hl 2 rfl) ?_
            refine va_put (D := E.1) (ci := 5) (v := .int r_2) (ty := .int) (C := RX5) (T := TX5) (N := 8) hx hb hts inX5 tyX5 tyX5_ok nmX5 hown hK hP hD hS 0 rfl rfl 6 (by decide) fl26 (fun _ h9 => h9) rfl (by decide +kernel) rfl rfl (Nat.le_of_ble_eq_true rfl) dX5_choose_105 (fun H locs hP hD hS => ?_)
            have hP : va_P E.1 vwCl [(h0, .inr (5, [.ref of, .ref k1, .ref k2, .ref k3, .ref k4, .int md, .int r_2, .int fsu])), (of, .inr (2, [.ref g1, .ref g2, .ref g3, .ref g4, .ref g5, .int (nI on), .ref g6, .ref g7, .ref g8])), (k2, .inl (E.2.1 2, 128, .inr (.inl fj))), (k3, .inl (E.2.1 0, 7, .inl f3)), (k4, .inl (E.2.1 0, 7, .inl f4))] H := hP
            have hD : va_D A [(h0, .inr (5, [.ref of, .ref k1, .ref k2, .ref k3, .ref k4, .int md, .int r_2, .int fsu])), (of, .inr (2, [.ref g1, .ref g2, .ref g3, .ref g4, .ref g5, .int (nI on), .ref g6, .ref g7, .ref g8])), (k2, .inl (E.2.1 2, 128, .inr (.inl fj))), (k3, .inl (E.2.1 0, 7, .inl f3)), (k4, .inl (E.2.1 0, 7, .inl f4))] := hD
            refine lv_iinc (v := (nI (sv + 1))) (lv' := [(4, .int (nI (sv + 1))), (2, .long x_14), (6, .long x_14), (5, .int r_2), (0, .ref h0), (1, .int (nI al))]) hx hb dX5_choose_108 hl (k := 5) rfl (show nI sv + 1 = nI (sv + 1) from nI_1 sv) (by decide) rfl (fun ls hl => ?_)
            refine lv_goto (tgt := 24) hx hb dX5_choose_111 (by decide) ?_
            exact ih (sv + 1) x_14 r_2 _ _ _ (by omega) (by omega) (hP.sub [0, 1, 2, 3, 4] rfl) (hD.sub [0, 1, 2, 3, 4] (by decide) rfl) hS (lv_sub hl [4, 5, 1, 0] rfl)
set_option maxHeartbeats 4000000 in
set_option maxRecDepth 100000 in
theorem c_X5_choose (l : Launch) (E : vE) (h0 : Nat) (of : Nat) (k1 : Nat) (k2 : Nat) (k3 : Nat) (k4 : Nat) (md : Int32) (fsu : Int32) (g1 : Nat) (g2 : Nat) (g3 : Nat) (g4 : Nat) (g5 : Nat) (g6 : Nat) (g7 : Nat) (g8 : Nat) (on : Nat) (fj : Nat → Int64) (f3 : Nat → Int32) (f4 : Nat → Int32) (dn : Int32) (sz : Nat) (hon : on ≤ 7) : Met l yX5_choose wsX5_choose ({ frames := 1, cells := 0, slots := 0, locals := 40 }) (pcW E [.ref h0] sz [(h0, .inr (5, [.ref of, .ref k1, .ref k2, .ref k3, .ref k4, .int md, .int dn, .int fsu])), (of, .inr (2, [.ref g1, .ref g2, .ref g3, .ref g4, .ref g5, .int (nI on), .ref g6, .ref g7, .ref g8])), (k2, .inl (E.2.1 2, 128, .inr (.inl fj))), (k3, .inl (E.2.1 0, 7, .inl f3)), (k4, .inl (E.2.1 0, 7, .inl f4))]) (va_Qv (fun (u : Int32 × Int32 × (Nat → Int32) × (Nat → Int32)) => match u with | (dn2, fsu2, f32, f42) => True) (fun (u : Int32 × Int32 × (Nat → Int32) × (Nat → Int32)) (t : State) => match u with | (dn2, fsu2, f32, f42) => wB E (va_A [(h0, .inr (5, [.ref of, .ref k1, .ref k2, .ref k3, .ref k4, .int md, .int dn, .int fsu])), (of, .inr (2, [.ref g1, .ref g2, .ref g3, .ref g4, .ref g5, .int (nI on), .ref g6, .ref g7, .ref g8])), (k2, .inl (E.2.1 2, 128, .inr (.inl fj))), (k3, .inl (E.2.1 0, 7, .inl f3)), (k4, .inl (E.2.1 0, 7, .inl f4))] sz) [(h0, .inr (5, [.ref of, .ref k1, .ref k2, .ref k3, .ref k4, .int md, .int dn2, .int fsu2])), (of, .inr (2, [.ref g1, .ref g2, .ref g3, .ref g4, .ref g5, .int (nI on), .ref g6, .ref g7, .ref g8])), (k2, .inl (E.2.1 2, 128, .inr (.inl fj))), (k3, .inl (E.2.1 0, 7, .inl f32)), (k4, .inl (E.2.1 0, 7, .inl f42))] t) (va_A [(h0, .inr (5, [.ref of, .ref k1, .ref k2, .ref k3, .ref k4, .int md, .int dn, .int fsu])), (of, .inr (2, [.ref g1, .ref g2, .ref g3, .ref g4, .ref g5, .int (nI on), .ref g6, .ref g7, .ref g8])), (k2, .inl (E.2.1 2, 128, .inr (.inl fj))), (k3, .inl (E.2.1 0, 7, .inl f3)), (k4, .inl (E.2.1 0, 7, .inl f4))] sz)) 0 0 (va_A [(h0, .inr (5, [.ref of, .ref k1, .ref k2, .ref k3, .ref k4, .int md, .int dn, .int fsu])), (of, .inr (2, [.ref g1, .ref g2, .ref g3, .ref g4, .ref g5, .int (nI on), .ref g6, .ref g7, .ref g8])), (k2, .inl (E.2.1 2, 128, .inr (.inl fj))), (k3, .inl (E.2.1 0, 7, .inl f3)), (k4, .inl (E.2.1 0, 7, .inl f4))] sz) := by
  refine Met.ofW (cc := cX5_choose) (maxL := 8) (ret := none) (by decide) rfl ?_
  intro p e s m args below meth c s₁ B hml hv
  obtain ⟨rfl, hsz, hP, hkn, hD0, hst⟩ := hv
  have hx := B.exec
  have hb := B.bytes
  have hr := B.returns
  have hts := atoms_spec (ws := wsX5_choose) B.pre
  have hown : s.vm.findClass RX5 = some m.cls := findClass_of_methodNamed B.named
  have hlocks := B.notSynchronized
  subst hsz
  have hD := hD0.self (sz := s.heap.size)
  have hK := hkn.1
  have hAO := hkn.2.2.1
  generalize hAe : va_A [(h0, .inr (5, [.ref of, .ref k1, .ref k2, .ref k3, .ref k4, .int md, .int dn, .int fsu])), (of, .inr (2, [.ref g1, .ref g2, .ref g3, .ref g4, .ref g5, .int (nI on), .ref g6, .ref g7, .ref g8])), (k2, .inl (E.2.1 2, 128, .inr (.inl fj))), (k3, .inl (E.2.1 0, 7, .inl f3)), (k4, .inl (E.2.1 0, 7, .inl f4))] s.heap.size = A at hD hst ⊢
  have hA : ∀ q : Nat, s.heap.size ≤ q → A q := fun q h => by rw [← hAe]; exact Or.inr h
  have hS : va_S A s.heap s.heap [] := va_S.rf
  have hP : va_P E.1 vwCl [(h0, .inr (5, [.ref of, .ref k1, .ref k2, .ref k3, .ref k4, .int md, .int dn, .int fsu])), (of, .inr (2, [.ref g1, .ref g2, .ref g3, .ref g4, .ref g5, .int (nI on), .ref g6, .ref g7, .ref g8])), (k2, .inl (E.2.1 2, 128, .inr (.inl fj))), (k3, .inl (E.2.1 0, 7, .inl f3)), (k4, .inl (E.2.1 0, 7, .inl f4))] s.heap := hP
  have hl := lv_entry ([.ref h0]) (n := 8) (Nat.le_of_ble_eq_true rfl)
  rw [lg_entry_eq]
  generalize (lg_sl ([.ref h0]) ++ List.replicate (8 - (lg_sl ([.ref h0])).length) Slot.unset).toArray = ls at hl ⊢
  have hl : lv_has ls 8 [(0, .ref h0)] := hl
  have fl9 := hts (.fieldLink RX5 9 "BoatsHome$Plan" "least" "[J") (by first | exact List.mem_of_getElem? (i := 5) rfl | decide +kernel)
  have fl26 := hts (.fieldLink RX5 26 "BoatsHome$Plan" "done" "I") (by first | exact List.mem_of_getElem? (i := 4) rfl | decide +kernel)
  have fl30 := hts (.fieldLink RX5 30 "BoatsHome$Plan" "flightSum" "I") (by first | exact List.mem_of_getElem? (i := 12) rfl | decide +kernel)
  have fl33 := hts (.fieldLink RX5 33 "BoatsHome$Plan" "offers" "LBoatsHome$Offers;") (by first | exact List.mem_of_getElem? (i := 1) rfl | decide +kernel)
  have fl72 := hts (.fieldLink RX5 72 "BoatsHome$Offers" "size" "I") (by first | exact List.mem_of_getElem? (i := 2) rfl | decide +kernel)
  have inX2 : ∀ w ∈ u_ws RX2 TX2 9, w ∈ wsX5_choose := by first | exact fun w h9 => (List.mem_cons_of_mem _ (List.mem_append_right _ h9)) | decide +kernel
  have inX5 : ∀ w ∈ u_ws RX5 TX5 8, w ∈ wsX5_choose := by first | exact fun w h9 => (List.mem_cons_of_mem _ (List.mem_append_left _ (List.mem_append_right _ h9))) | decide +kernel
  refine lv_iconst (v := 1) hx hb dX5_choose_0 (by decide) ?_
  refine lv_aload_n hx hb dX5_choose_1 rfl (lv_at hl 0 rfl) ?_
  refine va_get (D := E.1) (ci := 5) (v := .ref of) (C := RX5) (T := TX5) (N := 8) hx hb hts inX5 hown hK hP 0 rfl rfl 0 (by decide) fl33 (fun _ h9 => h9) rfl dX5_choose_2 ?_
  refine va_get (D := E.1) (ci := 2) (v := .int (nI on)) (C := RX2) (T := TX2) (N := 9) hx hb hts inX2 hown hK hP 1 rfl rfl 5 (by decide) fl72 (fun _ h9 => h9) rfl dX5_choose_5 ?_
  refine lv_ishl hx hb dX5_choose_8 ?_
  refine lv_topi (fun x_1 ex_1 => ?_)
  refine lv_iconst (v := 1) hx hb dX5_choose_9 (by decide) ?_
  refine lv_isub hx hb dX5_choose_10 ?_
  refine lv_topi (fun x_2 ex_2 => ?_)
  obtain ⟨w_3, hw8_4, ew_5⟩ : ∃ w, w < 128 ∧ x_2 = nI w := by rw [ex_2, ex_1]; exact shl_one hon
  subst ew_5
  refine lv_istore_n (lv' := [(1, .int (nI w_3)), (0, .ref h0)]) hx hb dX5_choose_11 rfl hl (by decide) rfl (fun ls hl => ?_)
  refine lv_ldc2 (v := 1152921504606846976) hx hb hown (hts (.constantLong RX5 46 1152921504606846976) (by first | exact List.mem_of_getElem? (i := 3) rfl | decide +kernel)) dX5_choose_12 ?_
  refine lv_lstore_n (lv' := [(2, .long 1152921504606846976), (1, .int (nI w_3)), (0, .ref h0)]) hx hb dX5_choose_15 rfl hl (by decide) rfl (fun ls hl => ?_)
  refine lv_aload_n hx hb dX5_choose_16 rfl (lv_at hl 2 rfl) ?_
  refine lv_iconst (v := 0) hx hb dX5_choose_17 (by decide) ?_
  refine va_put (D := E.1) (ci := 5) (v := .int 0) (ty := .int) (C := RX5) (T := TX5) (N := 8) hx hb hts inX5 tyX5 tyX5_ok nmX5 hown hK hP hD hS 0 rfl rfl 6 (by decide) fl26 (fun _ h9 => h9) rfl (by decide +kernel) rfl rfl (Nat.le_of_ble_eq_true rfl) dX5_choose_18 (fun H locs hP hD hS => ?_)
  have hP : va_P E.1 vwCl [(h0, .inr (5, [.ref of, .ref k1, .ref k2, .ref k3, .ref k4, .int md, .int 0, .int fsu])), (of, .inr (2, [.ref g1, .ref g2, .ref g3, .ref g4, .ref g5, .int (nI on), .ref g6, .ref g7, .ref g8])), (k2, .inl (E.2.1 2, 128, .inr (.inl fj))), (k3, .inl (E.2.1 0, 7, .inl f3)), (k4, .inl (E.2.1 0, 7, .inl f4))] H := hP
  have hD : va_D A [(h0, .inr (5, [.ref of, .ref k1, .ref k2, .ref k3, .ref k4, .int md, .int 0, .int fsu])), (of, .inr (2, [.ref g1, .ref g2, .ref g3, .ref g4, .ref g5, .int (nI on), .ref g6, .ref g7, .ref g8])), (k2, .inl (E.2.1 2, 128, .inr (.inl fj))), (k3, .inl (E.2.1 0, 7, .inl f3)), (k4, .inl (E.2.1 0, 7, .inl f4))] := hD
  refine lv_iconst (v := 0) hx hb dX5_choose_21 (by decide) ?_
  refine lv_istore (lv' := [(4, .int 0), (2, .long 1152921504606846976), (1, .int (nI w_3)), (0, .ref h0)]) hx hb dX5_choose_22 hl (by decide) rfl (fun ls hl => ?_)
  have hPl := hP.sub (ws' := [(h0, .inr (5, [.ref of, .ref k1, .ref k2, .ref k3, .ref k4, .int md, .int 0, .int fsu])), (of, .inr (2, [.ref g1, .ref g2, .ref g3, .ref g4, .ref g5, .int (nI on), .ref g6, .ref g7, .ref g8])), (k2, .inl (E.2.1 2, 128, .inr (.inl fj))), (k3, .inl (E.2.1 0, 7, .inl f3)), (k4, .inl (E.2.1 0, 7, .inl f4))]) [0, 1, 2, 3, 4] rfl
  have hDl := hD.sub (ws' := [(h0, .inr (5, [.ref of, .ref k1, .ref k2, .ref k3, .ref k4, .int md, .int 0, .int fsu])), (of, .inr (2, [.ref g1, .ref g2, .ref g3, .ref g4, .ref g5, .int (nI on), .ref g6, .ref g7, .ref g8])), (k2, .inl (E.2.1 2, 128, .inr (.inl fj))), (k3, .inl (E.2.1 0, 7, .inl f3)), (k4, .inl (E.2.1 0, 7, .inl f4))]) [0, 1, 2, 3, 4] (by decide) rfl
  refine lg_choose E h0 of k1 k2 k3 k4 md fsu g1 g2 g3 g4 g5 g6 g7 g8 on fj f3 f4 w_3 hx hb hml hown hts hkn hst hA hw8_4 (fun n_6 n_7 H locs ls  hP hD hS hl => ?_) 130 0 1152921504606846976 0 _ _ _ (by omega) (by omega) hPl hDl hS (lv_sub hl [3, 2, 1, 0] rfl)
  have hP : va_P E.1 vwCl [(h0, .inr (5, [.ref of, .ref k1, .ref k2, .ref k3, .ref k4, .int md, .int n_7, .int fsu])), (of, .inr (2, [.ref g1, .ref g2, .ref g3, .ref g4, .ref g5, .int (nI on), .ref g6, .ref g7, .ref g8])), (k2, .inl (E.2.1 2, 128, .inr (.inl fj))), (k3, .inl (E.2.1 0, 7, .inl f3)), (k4, .inl (E.2.1 0, 7, .inl f4))] H := hP
  have hD : va_D A [(h0, .inr (5, [.ref of, .ref k1, .ref k2, .ref k3, .ref k4, .int md, .int n_7, .int fsu])), (of, .inr (2, [.ref g1, .ref g2, .ref g3, .ref g4, .ref g5, .int (nI on), .ref g6, .ref g7, .ref g8])), (k2, .inl (E.2.1 2, 128, .inr (.inl fj))), (k3, .inl (E.2.1 0, 7, .inl f3)), (k4, .inl (E.2.1 0, 7, .inl f4))] := hD
  refine lv_aload_n hx hb dX5_choose_114 rfl (lv_at hl 0 rfl) ?_
  refine lv_lload_n hx hb dX5_choose_115 rfl (lv_at hl 1 rfl) ?_
  refine lv_ldc2 (v := 78125) hx hb hown (hts (.constantLong RX5 78 78125) (by first | exact List.mem_of_getElem? (i := 11) rfl | decide +kernel)) dX5_choose_116 ?_
  refine lv_ldiv hx hb dX5_choose_119 (by decide) ?_
  refine lv_topl (fun x_8 ex_8 => ?_)
  refine lv_l2i hx hb dX5_choose_120 rfl ?_
  refine lv_topi (fun x_9 ex_9 => ?_)
  refine va_put (D := E.1) (ci := 5) (v := .int x_9) (ty := .int) (C := RX5) (T := TX5) (N := 8) hx hb hts inX5 tyX5 tyX5_ok nmX5 hown hK hP hD hS 0 rfl rfl 7 (by decide) fl30 (fun _ h9 => h9) rfl (by decide +kernel) rfl rfl (Nat.le_of_ble_eq_true rfl) dX5_choose_121 (fun H locs hP hD hS => ?_)
  have hP : va_P E.1 vwCl [(h0, .inr (5, [.ref of, .ref k1, .ref k2, .ref k3, .ref k4, .int md, .int n_7, .int x_9])), (of, .inr (2, [.ref g1, .ref g2, .ref g3, .ref g4, .ref g5, .int (nI on), .ref g6, .ref g7, .ref g8])), (k2, .inl (E.2.1 2, 128, .inr (.inl fj))), (k3, .inl (E.2.1 0, 7, .inl f3)), (k4, .inl (E.2.1 0, 7, .inl f4))] H := hP
  have hD : va_D A [(h0, .inr (5, [.ref of, .ref k1, .ref k2, .ref k3, .ref k4, .int md, .int n_7, .int x_9])), (of, .inr (2, [.ref g1, .ref g2, .ref g3, .ref g4, .ref g5, .int (nI on), .ref g6, .ref g7, .ref g8])), (k2, .inl (E.2.1 2, 128, .inr (.inl fj))), (k3, .inl (E.2.1 0, 7, .inl f3)), (k4, .inl (E.2.1 0, 7, .inl f4))] := hD
  refine lv_aload_n hx hb dX5_choose_124 rfl (lv_at hl 0 rfl) ?_
  refine lv_lload_n hx hb dX5_choose_125 rfl (lv_at hl 1 rfl) ?_
  refine lv_ldc2 (v := 78125) hx hb hown (hts (.constantLong RX5 78 78125) (by first | exact List.mem_of_getElem? (i := 11) rfl | decide +kernel)) dX5_choose_126 ?_
  refine lv_lrem hx hb dX5_choose_129 (by decide) ?_
  refine lv_topl (fun x_10 ex_10 => ?_)
  refine lv_l2i hx hb dX5_choose_130 rfl ?_
  refine lv_topi (fun x_11 ex_11 => ?_)
  have hPc := hP.sub (ws' := [(h0, .inr (5, [.ref of, .ref k1, .ref k2, .ref k3, .ref k4, .int md, .int n_7, .int x_9])), (k3, .inl (E.2.1 0, 7, .inl f3)), (k4, .inl (E.2.1 0, 7, .inl f4))]) [0, 3, 4] rfl
  have hDc := hD.sub (ws' := [(h0, .inr (5, [.ref of, .ref k1, .ref k2, .ref k3, .ref k4, .int md, .int n_7, .int x_9])), (k3, .inl (E.2.1 0, 7, .inl f3)), (k4, .inl (E.2.1 0, 7, .inl f4))]) [0, 3, 4] (by decide) rfl
  have hFc := va_free (wc := [(h0, .inr (5, [.ref of, .ref k1, .ref k2, .ref k3, .ref k4, .int md, .int n_7, .int x_9])), (k3, .inl (E.2.1 0, 7, .inl f3)), (k4, .inl (E.2.1 0, 7, .inl f4))]) hD hS hA [0, 3, 4] rfl
  refine va_callv (va_runV (As := [.int x_11]) (rest := []) ⟨hx, hb, hml, hown, hts⟩ (c_X5_readRow l E h0 of k1 k2 k3 k4 md n_7 x_9 f3 f4 x_11 H.size ) (cwV 1 hts gX5_choose_X5_readRow rfl rfl rfl hdV_X5_readRow ⟨Nat.le_of_ble_eq_true rfl, Nat.le_of_ble_eq_true rfl⟩) ⟨pcW_blind, va_recv hK hPc (ci := 5) (q0 := 0) rfl rfl, (pcW_pre hPc hkn hDc hst hS hFc)⟩ rfl rfl hl.1 rfl (lv_room (Nat.le_of_ble_eq_true rfl)) dX5_choose_131 ⟨Nat.le_of_ble_eq_true rfl, Nat.le_of_ble_eq_true rfl⟩) hS (fun q _ h => hFc q h) hFc (fun u t H1 locs ht hvm hw_13 hB hz1 hk1 hS => ?_)
  obtain ⟨u_14, u_15⟩ := u
  obtain ⟨hP1, hD1⟩ := hB
  rw [ht] at hP1
  try dsimp only at hw_13
  obtain ⟨hP, hD⟩ := va_join (wr := [(of, .inr (2, [.ref g1, .ref g2, .ref g3, .ref g4, .ref g5, .int (nI on), .ref g6, .ref g7, .ref g8])), (k2, .inl (E.2.1 2, 128, .inr (.inl fj)))]) (w1 := [(h0, .inr (5, [.ref of, .ref k1, .ref k2, .ref k3, .ref k4, .int md, .int n_7, .int x_9])), (k3, .inl (E.2.1 0, 7, .inl u_14)), (k4, .inl (E.2.1 0, 7, .inl u_15))]) hP hD [0, 3, 4] [1, 2] rfl rfl (by decide) (by decide) hk1 hFc hP1 hD1
  generalize H1 = H at hP hS ⊢
  have hP : va_P E.1 vwCl [(of, .inr (2, [.ref g1, .ref g2, .ref g3, .ref g4, .ref g5, .int (nI on), .ref g6, .ref g7, .ref g8])), (k2, .inl (E.2.1 2, 128, .inr (.inl fj))), (h0, .inr (5, [.ref of, .ref k1, .ref k2, .ref k3, .ref k4, .int md, .int n_7, .int x_9])), (k3, .inl (E.2.1 0, 7, .inl u_14)), (k4, .inl (E.2.1 0, 7, .inl u_15))] H := hP
  have hD : va_D A [(of, .inr (2, [.ref g1, .ref g2, .ref g3, .ref g4, .ref g5, .int (nI on), .ref g6, .ref g7, .ref g8])), (k2, .inl (E.2.1 2, 128, .inr (.inl fj))), (h0, .inr (5, [.ref of, .ref k1, .ref k2, .ref k3, .ref k4, .int md, .int n_7, .int x_9])), (k3, .inl (E.2.1 0, 7, .inl u_14)), (k4, .inl (E.2.1 0, 7, .inl u_15))] := hD
  have hP9 := hP.sub (ws' := [(h0, .inr (5, [.ref of, .ref k1, .ref k2, .ref k3, .ref k4, .int md, .int n_7, .int x_9])), (of, .inr (2, [.ref g1, .ref g2, .ref g3, .ref g4, .ref g5, .int (nI on), .ref g6, .ref g7, .ref g8])), (k2, .inl (E.2.1 2, 128, .inr (.inl fj))), (k3, .inl (E.2.1 0, 7, .inl u_14)), (k4, .inl (E.2.1 0, 7, .inl u_15))]) [2, 0, 1, 3, 4] rfl
  have hD9 := hD.sub (ws' := [(h0, .inr (5, [.ref of, .ref k1, .ref k2, .ref k3, .ref k4, .int md, .int n_7, .int x_9])), (of, .inr (2, [.ref g1, .ref g2, .ref g3, .ref g4, .ref g5, .int (nI on), .ref g6, .ref g7, .ref g8])), (k2, .inl (E.2.1 2, 128, .inr (.inl fj))), (k3, .inl (E.2.1 0, 7, .inl u_14)), (k4, .inl (E.2.1 0, 7, .inl u_15))]) [2, 0, 1, 3, 4] (by decide) rfl
  exact W.vret hx hb hr (fun t ht hW => ⟨⟨(n_7, x_9, u_14, u_15), rfl, trivial, by rw [ht]; exact hP9, hD9⟩, hS.F ht⟩) hS.2.2 dX5_choose_134
