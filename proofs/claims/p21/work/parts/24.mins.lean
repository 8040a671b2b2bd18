set_option maxHeartbeats 4000000 in
set_option maxRecDepth 100000 in
theorem lm_line0 {p : Program} {l : Launch} {e : Env} {s : State} {m : MethodId} {args : Array Value} {below : List Frame} {meth : Method} {c : Code} {Q : State → Prop} {A : Nat → Prop} (E : vE) (h0 : Nat) (q : Nat → Nat) (i_taped : Int32) (i_sort : Int32) (i_what : Int32) (i_at : Int32) (i_worth : Int32) (i_faultKind : Int32) (i_faultPlace : Int32) (i_got : Int32) (i_worked : Int32) (i_deliveries : Int32) (i_isPlanned : Int32) (i_bestDone : Int32) (i_bestCost : Int32) (sz9 : Nat) (en9 : Nat) (hc : Int32) (hf : Int32) (a_boxMany : Nat → Int32) (wr : va_W) (hx : p.tables.exec = Jvm.exec) (hb : c.code = cX12_readLine) (hml : c.maxLocals = 6) (hown : s.vm.findClass RX12 = some m.cls) (hts : ∀ w ∈ wsX12_readLine, w.before args s = true) (hkn : kn E s) (hst : st E A s s.heap) (hA : ∀ q : Nat, s.heap.size ≤ q → A q) (hI_boxMany : ∀ k : Nat, k < 7 → inR (a_boxMany k) 0 12 = true) (kk : ∀ (H : Heap) (locs : List Loc) (ls : Array Slot), (i_what = 11 → ¬ a_boxMany (6 : Int32).toNatClampNeg = 12) → va_P E.1 vwCl ((h0, .inr (12, mG q i_taped (nI sz9) i_sort i_what i_at (nI en9) i_worth i_faultKind i_faultPlace i_got i_worked i_deliveries i_isPlanned i_bestDone i_bestCost)) :: (q 13, .inl (E.2.1 0, 7, .inl a_boxMany)) :: wr) H → va_D A ((h0, .inr (12, mG q i_taped (nI sz9) i_sort i_what i_at (nI en9) i_worth i_faultKind i_faultPlace i_got i_worked i_deliveries i_isPlanned i_bestDone i_bestCost)) :: (q 13, .inl (E.2.1 0, 7, .inl a_boxMany)) :: wr) → va_S A s.heap H locs → lv_has ls 6 [(0, .ref h0), (3, .int i_what)] → W p l e ({ frames := 7, cells := 0, slots := 0, locals := 157 }) s m args below meth c H locs 0 0 Q (F0 m 94 ls [])) (kk2 : ∀ (H : Heap) (locs : List Loc) (ls : Array Slot), va_P E.1 vwCl ((h0, .inr (12, mG q i_taped (nI sz9) i_sort i_what i_at (nI en9) i_worth i_faultKind i_faultPlace i_got i_worked i_deliveries i_isPlanned i_bestDone i_bestCost)) :: (q 13, .inl (E.2.1 0, 7, .inl a_boxMany)) :: wr) H → va_D A ((h0, .inr (12, mG q i_taped (nI sz9) i_sort i_what i_at (nI en9) i_worth i_faultKind i_faultPlace i_got i_worked i_deliveries i_isPlanned i_bestDone i_bestCost)) :: (q 13, .inl (E.2.1 0, 7, .inl a_boxMany)) :: wr) → va_S A s.heap H locs → lv_has ls 6 [(0, .ref h0)] → W p l e ({ frames := 7, cells := 0, slots := 0, locals := 157 }) s m args below meth c H locs 0 0 Q (F0 m 34 ls [])) (kk3 : ∀ (H : Heap) (locs : List Loc) (ls : Array Slot), va_P E.1 vwCl ((h0, .inr (12, mG q i_taped (nI sz9) i_sort i_what i_at (nI en9) i_worth i_faultKind i_faultPlace i_got i_worked i_deliveries i_isPlanned i_bestDone i_bestCost)) :: (q 13, .inl (E.2.1 0, 7, .inl a_boxMany)) :: wr) H → va_D A ((h0, .inr (12, mG q i_taped (nI sz9) i_sort i_what i_at (nI en9) i_worth i_faultKind i_faultPlace i_got i_worked i_deliveries i_isPlanned i_bestDone i_bestCost)) :: (q 13, .inl (E.2.1 0, 7, .inl a_boxMany)) :: wr) → va_S A s.heap H locs → lv_has ls 6 [(0, .ref h0)] → W p l e ({ frames := 7, cells := 0, slots := 0, locals := 157 }) s m args below meth c H locs 0 0 Q (F0 m 64 ls [])) (kk4 : ∀ (H : Heap) (locs : List Loc) (ls : Array Slot), va_P E.1 vwCl ((h0, .inr (12, mG q i_taped (nI sz9) i_sort i_what i_at (nI en9) i_worth i_faultKind i_faultPlace i_got i_worked i_deliveries i_isPlanned i_bestDone i_bestCost)) :: (q 13, .inl (E.2.1 0, 7, .inl a_boxMany)) :: wr) H → va_D A ((h0, .inr (12, mG q i_taped (nI sz9) i_sort i_what i_at (nI en9) i_worth i_faultKind i_faultPlace i_got i_worked i_deliveries i_isPlanned i_bestDone i_bestCost)) :: (q 13, .inl (E.2.1 0, 7, .inl a_boxMany)) :: wr) → va_S A s.heap H locs → lv_has ls 6 [(0, .ref h0)] → W p l e ({ frames := 7, cells := 0, slots := 0, locals := 157 }) s m args below meth c H locs 0 0 Q (F0 m 88 ls [])) : ∀ (n0 : Nat) (H : Heap) (locs : List Loc) (ls : Array Slot), 0 < n0 → va_P E.1 vwCl ((h0, .inr (12, mG q i_taped (nI sz9) i_sort i_what i_at (nI en9) i_worth i_faultKind i_faultPlace i_got i_worked i_deliveries i_isPlanned i_bestDone i_bestCost)) :: (q 13, .inl (E.2.1 0, 7, .inl a_boxMany)) :: wr) H → va_D A ((h0, .inr (12, mG q i_taped (nI sz9) i_sort i_what i_at (nI en9) i_worth i_faultKind i_faultPlace i_got i_worked i_deliveries i_isPlanned i_bestDone i_bestCost)) :: (q 13, .inl (E.2.1 0, 7, .inl a_boxMany)) :: wr) → va_S A s.heap H locs → lv_has ls 6 [(0, .ref h0), (1, .int hc), (2, .int hf)] → W p l e ({ frames := 7, cells := 0, slots := 0, locals := 157 }) s m args below meth c H locs 0 0 Q (F0 m 0 ls []) := by
  have hK := hkn.1
  have hAO := hkn.2.2.1
  have fl24 := hts (.fieldLink RX12 24 "BoatsHomeModel" "boxes" "[I") (by first | exact List.mem_of_getElem? (i := 7) rfl | decide +kernel)
  have fl27 := hts (.fieldLink RX12 27 "BoatsHomeModel" "boxMany" "[I") (by first | exact List.mem_of_getElem? (i := 3) rfl | decide +kernel)
  have fl30 := hts (.fieldLink RX12 30 "BoatsHomeModel" "minCrew" "[I") (by first | exact List.mem_of_getElem? (i := 4) rfl | decide +kernel)
  have fl33 := hts (.fieldLink RX12 33 "BoatsHomeModel" "maxForce" "[I") (by first | exact List.mem_of_getElem? (i := 6) rfl | decide +kernel)
  have fl180 := hts (.fieldLink RX12 180 "BoatsHomeModel" "sort" "I") (by first | exact List.mem_of_getElem? (i := 1) rfl | decide +kernel)
  have fl191 := hts (.fieldLink RX12 191 "BoatsHomeModel" "what" "I") (by first | exact List.mem_of_getElem? (i := 2) rfl | decide +kernel)
  have fl206 := hts (.fieldLink RX12 206 "BoatsHomeModel" "got" "I") (by first | exact List.mem_of_getElem? (i := 5) rfl | decide +kernel)
  have inX12 : ∀ w ∈ u_ws RX12 TX12 59, w ∈ wsX12_readLine := by first | exact fun w h9 => (List.mem_cons_of_mem _ (List.mem_append_right _ h9)) | decide +kernel
  intro n0
  induction n0 with
  | zero =>
    intro  H locs ls hn0
    exact absurd hn0 (Nat.not_lt_zero _)
  | succ n0 ih =>
    intro  H locs ls hn0  hP hD hS hl
    refine lv_aload_n hx hb dX12_readLine_0 rfl (lv_at hl 0 rfl) ?_
    refine va_get (D := E.1) (ci := 12) (v := .int i_sort) (C := RX12) (T := TX12) (N := 59) hx hb hts inX12 hown hK hP 0 rfl rfl 3 (by decide) fl180 (fun _ h9 => h9) rfl dX12_readLine_1 ?_
    refine lv_iconst (v := 1) hx hb dX12_readLine_4 (by decide) ?_
    refine lv_icmp_ne (tgt := 34) hx hb dX12_readLine_5 (by decide) (fun c_1 => ?_) (fun c_1 => ?_)
    · exact kk2  _ _ _  hP hD hS (lv_sub hl [0] rfl)
    · refine lv_aload_n hx hb dX12_readLine_8 rfl (lv_at hl 0 rfl) ?_
      refine va_get (D := E.1) (ci := 12) (v := .int i_what) (C := RX12) (T := TX12) (N := 59) hx hb hts inX12 hown hK hP 0 rfl rfl 4 (by decide) fl191 (fun _ h9 => h9) rfl dX12_readLine_9 ?_
      refine lv_bipush (v := 11) hx hb dX12_readLine_12 (by decide) ?_
      refine lv_icmp_eq (tgt := 40) hx hb dX12_readLine_14 (by decide) (fun c_2 => ?_) (fun c_2 => ?_)
      · refine lv_aload_n hx hb dX12_readLine_40 rfl (lv_at hl 0 rfl) ?_
        refine va_get (D := E.1) (ci := 12) (v := .int i_what) (C := RX12) (T := TX12) (N := 59) hx hb hts inX12 hown hK hP 0 rfl rfl 4 (by decide) fl191 (fun _ h9 => h9) rfl dX12_readLine_41 ?_
        refine lv_istore_n (lv' := [(3, .int i_what), (0, .ref h0), (1, .int hc), (2, .int hf)]) hx hb dX12_readLine_44 rfl hl (by decide) rfl (fun ls hl => ?_)
        refine lv_iload_n hx hb dX12_readLine_45 rfl (lv_at hl 0 rfl) ?_
        refine lv_bipush (v := 14) hx hb dX12_readLine_46 (by decide) ?_
        refine lv_icmp_ne (tgt := 55) hx hb dX12_readLine_48 (by decide) (fun c_3 => ?_) (fun c_3 => ?_)
        · refine lv_iload_n hx hb dX12_readLine_55 rfl (lv_at hl 0 rfl) ?_
          refine lv_iconst (v := 1) hx hb dX12_readLine_56 (by decide) ?_
          refine lv_icmp_ne (tgt := 70) hx hb dX12_readLine_57 (by decide) (fun c_4 => ?_) (fun c_4 => ?_)
          · refine lv_iload_n hx hb dX12_readLine_70 rfl (lv_at hl 0 rfl) ?_
            refine lv_bipush (v := 11) hx hb dX12_readLine_71 (by decide) ?_
            refine lv_icmp_ne (tgt := 94) hx hb dX12_readLine_73 (by decide) (fun c_5 => ?_) (fun c_5 => ?_)
            · exact kk  _ _ _ (fun h => absurd h c_5) hP hD hS (lv_sub hl [1, 0] rfl)
            · refine lv_aload_n hx hb dX12_readLine_76 rfl (lv_at hl 1 rfl) ?_
              refine va_get (D := E.1) (ci := 12) (v := .ref (q 13)) (C := RX12) (T := TX12) (N := 59) hx hb hts inX12 hown hK hP 0 rfl rfl 13 (by decide) fl27 (fun _ h9 => h9) rfl dX12_readLine_77 ?_
              refine lv_bipush (v := 6) hx hb dX12_readLine_80 (by decide) ?_
              refine va_iald hx hb hK hP 1 0 rfl rfl (show vp_in 6 7 from by unfold vp_in; decide) dX12_readLine_82 ?_
              refine lv_topi (fun x_6 ex_6 => ?_)
              have hv_7 : inR x_6 0 12 = true := by rw [ex_6]; exact hI_boxMany _ (vin_cl (show vp_in 6 7 from by unfold vp_in; decide))
              obtain ⟨w_8, hw_9, ew_10⟩ := inR_nI (n := 12) (by decide) hv_7
              subst ew_10
              refine lv_bipush (v := 12) hx hb dX12_readLine_83 (by decide) ?_
              refine lv_icmp_ne (tgt := 94) hx hb dX12_readLine_85 (by decide) (fun c_11 => ?_) (fun c_11 => ?_)
              · exact kk  _ _ _ (fun _ h => c_11 (ex_6.trans h)) hP hD hS (lv_sub hl [1, 0] rfl)
              · exact kk4  _ _ _  hP hD hS (lv_sub hl [1] rfl)
          · refine lv_iload_n hx hb dX12_readLine_60 rfl (lv_at hl 3 rfl) ?_
            refine lv_if_eq (tgt := 70) hx hb dX12_readLine_61 (by decide) (fun c_12 => ?_) (fun c_12 => ?_)
            · refine lv_iload_n hx hb dX12_readLine_70 rfl (lv_at hl 0 rfl) ?_
              refine lv_bipush (v := 11) hx hb dX12_readLine_71 (by decide) ?_
              refine lv_icmp_ne (tgt := 94) hx hb dX12_readLine_73 (by decide) (fun c_13 => ?_) (fun c_13 => ?_)
              · exact kk  _ _ _ (fun h => absurd h c_13) hP hD hS (lv_sub hl [1, 0] rfl)
              · refine lv_aload_n hx hb dX12_readLine_76 rfl (lv_at hl 1 rfl) ?_
                refine va_get (D := E.1) (ci := 12) (v := .ref (q 13)) (C := RX12) (T := TX12) (N := 59) hx hb hts inX12 hown hK hP 0 rfl rfl 13 (by decide) fl27 (fun _ h9 => h9) rfl dX12_readLine_77 ?_
                refine lv_bipush (v := 6) hx hb dX12_readLine_80 (by decide) ?_
                refine va_iald hx hb hK hP 1 0 rfl rfl (show vp_in 6 7 from by unfold vp_in; decide) dX12_readLine_82 ?_
                refine lv_topi (fun x_14 ex_14 => ?_)
                have hv_15 : inR x_14 0 12 = true := by rw [ex_14]; exact hI_boxMany _ (vin_cl (show vp_in 6 7 from by unfold vp_in; decide))
                obtain ⟨w_16, hw_17, ew_18⟩ := inR_nI (n := 12) (by decide) hv_15
                subst ew_18
                refine lv_bipush (v := 12) hx hb dX12_readLine_83 (by decide) ?_
                refine lv_icmp_ne (tgt := 94) hx hb dX12_readLine_85 (by decide) (fun c_19 => ?_) (fun c_19 => ?_)
                · exact kk  _ _ _ (fun _ h => c_19 (ex_14.trans h)) hP hD hS (lv_sub hl [1, 0] rfl)
                · exact kk4  _ _ _  hP hD hS (lv_sub hl [1] rfl)
            · exact kk3  _ _ _  hP hD hS (lv_sub hl [1] rfl)
        · refine lv_iload_n hx hb dX12_readLine_51 rfl (lv_at hl 2 rfl) ?_
          refine lv_if_ne (tgt := 64) hx hb dX12_readLine_52 (by decide) (fun c_20 => ?_) (fun c_20 => ?_)
          · exact kk3  _ _ _  hP hD hS (lv_sub hl [1] rfl)
          · refine lv_iload_n hx hb dX12_readLine_55 rfl (lv_at hl 0 rfl) ?_
            refine lv_iconst (v := 1) hx hb dX12_readLine_56 (by decide) ?_
            refine lv_icmp_ne (tgt := 70) hx hb dX12_readLine_57 (by decide) (fun c_21 => ?_) (fun c_21 => ?_)
            · refine lv_iload_n hx hb dX12_readLine_70 rfl (lv_at hl 0 rfl) ?_
              refine lv_bipush (v := 11) hx hb dX12_readLine_71 (by decide) ?_
              refine lv_icmp_ne (tgt := 94) hx hb dX12_readLine_73 (by decide) (fun c_22 => ?_) (fun c_22 => ?_)
              · exact kk  _ _ _ (fun h => absurd h c_22) hP hD hS (lv_sub hl [1, 0] rfl)
              · refine lv_aload_n hx hb dX12_readLine_76 rfl (lv_at hl 1 rfl) ?_
                refine va_get (D := E.1) (ci := 12) (v := .ref (q 13)) (C := RX12) (T := TX12) (N := 59) hx hb hts inX12 hown hK hP 0 rfl rfl 13 (by decide) fl27 (fun _ h9 => h9) rfl dX12_readLine_77 ?_
                refine lv_bipush (v := 6) hx hb dX12_readLine_80 (by decide) ?_
                refine va_iald hx hb hK hP 1 0 rfl rfl (show vp_in 6 7 from by unfold vp_in; decide) dX12_readLine_82 ?_
                refine lv_topi (fun x_23 ex_23 => ?_)
                have hv_24 : inR x_23 0 12 = true := by rw [ex_23]; exact hI_boxMany _ (vin_cl (show vp_in 6 7 from by unfold vp_in; decide))
                obtain ⟨w_25, hw_26, ew_27⟩ := inR_nI (n := 12) (by decide) hv_24
                subst ew_27
                refine lv_bipush (v := 12) hx hb dX12_readLine_83 (by decide) ?_
                refine lv_icmp_ne (tgt := 94) hx hb dX12_readLine_85 (by decide) (fun c_28 => ?_) (fun c_28 => ?_)
                · exact kk  _ _ _ (fun _ h => c_28 (ex_23.trans h)) hP hD hS (lv_sub hl [1, 0] rfl)
                · exact kk4  _ _ _  hP hD hS (lv_sub hl [1] rfl)
            · refine lv_iload_n hx hb dX12_readLine_60 rfl (lv_at hl 3 rfl) ?_
              refine lv_if_eq (tgt := 70) hx hb dX12_readLine_61 (by decide) (fun c_29 => ?_) (fun c_29 => ?_)
              · refine lv_iload_n hx hb dX12_readLine_70 rfl (lv_at hl 0 rfl) ?_
                refine lv_bipush (v := 11) hx hb dX12_readLine_71 (by decide) ?_
                refine lv_icmp_ne (tgt := 94) hx hb dX12_readLine_73 (by decide) (fun c_30 => ?_) (fun c_30 => ?_)
                · exact kk  _ _ _ (fun h => absurd h c_30) hP hD hS (lv_sub hl [1, 0] rfl)
                · refine lv_aload_n hx hb dX12_readLine_76 rfl (lv_at hl 1 rfl) ?_
                  refine va_get (D := E.1) (ci := 12) (v := .ref (q 13)) (C := RX12) (T := TX12) (N := 59) hx hb hts inX12 hown hK hP 0 rfl rfl 13 (by decide) fl27 (fun _ h9 => h9) rfl dX12_readLine_77 ?_
                  refine lv_bipush (v := 6) hx hb dX12_readLine_80 (by decide) ?_
                  refine va_iald hx hb hK hP 1 0 rfl rfl (show vp_in 6 7 from by unfold vp_in; decide) dX12_readLine_82 ?_
                  refine lv_topi (fun x_31 ex_31 => ?_)
                  have hv_32 : inR x_31 0 12 = true := by rw [ex_31]; exact hI_boxMany _ (vin_cl (show vp_in 6 7 from by unfold vp_in; decide))
                  obtain ⟨w_33, hw_34, ew_35⟩ := inR_nI (n := 12) (by decide) hv_32
                  subst ew_35
                  refine lv_bipush (v := 12) hx hb dX12_readLine_83 (by decide) ?_
                  refine lv_icmp_ne (tgt := 94) hx hb dX12_readLine_85 (by decide) (fun c_36 => ?_) (fun c_36 => ?_)
                  · exact kk  _ _ _ (fun _ h => c_36 (ex_31.trans h)) hP hD hS (lv_sub hl [1, 0] rfl)
                  · exact kk4  _ _ _  hP hD hS (lv_sub hl [1] rfl)
              · exact kk3  _ _ _  hP hD hS (lv_sub hl [1] rfl)
      · refine lv_aload_n hx hb dX12_readLine_17 rfl (lv_at hl 0 rfl) ?_
        refine va_get (D := E.1) (ci := 12) (v := .int i_what) (C := RX12) (T := TX12) (N := 59) hx hb hts inX12 hown hK hP 0 rfl rfl 4 (by decide) fl191 (fun _ h9 => h9) rfl dX12_readLine_18 ?_
        refine lv_bipush (v := 14) hx hb dX12_readLine_21 (by decide) ?_
        refine lv_icmp_eq (tgt := 40) hx hb dX12_readLine_23 (by decide) (fun c_37 => ?_) (fun c_37 => ?_)
        · refine lv_aload_n hx hb dX12_readLine_40 rfl (lv_at hl 0 rfl) ?_
          refine va_get (D := E.1) (ci := 12) (v := .int i_what) (C := RX12) (T := TX12) (N := 59) hx hb hts inX12 hown hK hP 0 rfl rfl 4 (by decide) fl191 (fun _ h9 => h9) rfl dX12_readLine_41 ?_
          refine lv_istore_n (lv' := [(3, .int i_what), (0, .ref h0), (1, .int hc), (2, .int hf)]) hx hb dX12_readLine_44 rfl hl (by decide) rfl (fun ls hl => ?_)
          refine lv_iload_n hx hb dX12_readLine_45 rfl (lv_at hl 0 rfl) ?_
          refine lv_bipush (v := 14) hx hb dX12_readLine_46 (by decide) ?_
          refine lv_icmp_ne (tgt := 55) hx hb dX12_readLine_48 (by decide) (fun c_38 => ?_) (fun c_38 => ?_)
          · refine lv_iload_n hx hb dX12_readLine_55 rfl (lv_at hl 0 rfl) ?_
            refine lv_iconst (v := 1) hx hb dX12_readLine_56 (by decide) ?_
            refine lv_icmp_ne (tgt := 70) hx hb dX12_readLine_57 (by decide) (fun c_39 => ?_) (fun c_39 => ?_)
            · refine lv_iload_n hx hb dX12_readLine_70 rfl (lv_at hl 0 rfl) ?_
              refine lv_bipush (v := 11) hx hb dX12_readLine_71 (by decide) ?_
              refine lv_icmp_ne (tgt := 94) hx hb dX12_readLine_73 (by decide) (fun c_40 => ?_) (fun c_40 => ?_)
              · exact kk  _ _ _ (fun h => absurd h c_40) hP hD hS (lv_sub hl [1, 0] rfl)
              · refine lv_aload_n hx hb dX12_readLine_76 rfl (lv_at hl 1 rfl) ?_
                refine va_get (D := E.1) (ci := 12) (v := .ref (q 13)) (C := RX12) (T := TX12) (N := 59) hx hb hts inX12 hown hK hP 0 rfl rfl 13 (by decide) fl27 (fun _ h9 => h9) rfl dX12_readLine_77 ?_
                refine lv_bipush (v := 6) hx hb dX12_readLine_80 (by decide) ?_
                refine va_iald hx hb hK hP 1 0 rfl rfl (show vp_in 6 7 from by unfold vp_in; decide) dX12_readLine_82 ?_
                refine lv_topi (fun x_41 ex_41 => ?_)
                have hv_42 : inR x_41 0 12 = true := by rw [ex_41]; exact hI_boxMany _ (vin_cl (show vp_in 6 7 from by unfold vp_in; decide))
                obtain ⟨w_43, hw_44, ew_45⟩ := inR_nI (n := 12) (by decide) hv_42
                subst ew_45
                refine lv_bipush (v := 12) hx hb dX12_readLine_83 (by decide) ?_
                refine lv_icmp_ne (tgt := 94) hx hb dX12_readLine_85 (by decide) (fun c_46 => ?_) (fun c_46 => ?_)
                · exact kk  _ _ _ (fun _ h => c_46 (ex_41.trans h)) hP hD hS (lv_sub hl [1, 0] rfl)
                · exact kk4  _ _ _  hP hD hS (lv_sub hl [1] rfl)
            · refine lv_iload_n hx hb dX12_readLine_60 rfl (lv_at hl 3 rfl) ?_
              refine lv_if_eq (tgt := 70) hx hb dX12_readLine_61 (by decide) (fun c_47 => ?_) (fun c_47 => ?_)
              · refine lv_iload_n hx hb dX12_readLine_70 rfl (lv_at hl 0 rfl) ?_
                refine lv_bipush (v := 11) hx hb dX12_readLine_71 (by decide) ?_
                refine lv_icmp_ne (tgt := 94) hx hb dX12_readLine_73 (by decide) (fun c_48 => ?_) (fun c_48 => ?_)
                · exact kk  _ _ _ (fun h => absurd h c_48) hP hD hS (lv_sub hl [1, 0] rfl)
                · refine lv_aload_n hx hb dX12_readLine_76 rfl (lv_at hl 1 rfl) ?_
                  refine va_get (D := E.1) (ci := 12) (v := .ref (q 13)) (C := RX12) (T := TX12) (N := 59) hx hb hts inX12 hown hK hP 0 rfl rfl 13 (by decide) fl27 (fun _ h9 => h9) rfl dX12_readLine_77 ?_
                  refine lv_bipush (v := 6) hx hb dX12_readLine_80 (by decide) ?_
                  refine va_iald hx hb hK hP 1 0 rfl rfl (show vp_in 6 7 from by unfold vp_in; decide) dX12_readLine_82 ?_
                  refine lv_topi (fun x_49 ex_49 => ?_)
                  have hv_50 : inR x_49 0 12 = true := by rw [ex_49]; exact hI_boxMany _ (vin_cl (show vp_in 6 7 from by unfold vp_in; decide))
                  obtain ⟨w_51, hw_52, ew_53⟩ := inR_nI (n := 12) (by decide) hv_50
                  subst ew_53
                  refine lv_bipush (v := 12) hx hb dX12_readLine_83 (by decide) ?_
                  refine lv_icmp_ne (tgt := 94) hx hb dX12_readLine_85 (by decide) (fun c_54 => ?_) (fun c_54 => ?_)
                  · exact kk  _ _ _ (fun _ h => c_54 (ex_49.trans h)) hP hD hS (lv_sub hl [1, 0] rfl)
                  · exact kk4  _ _ _  hP hD hS (lv_sub hl [1] rfl)
              · exact kk3  _ _ _  hP hD hS (lv_sub hl [1] rfl)
          · refine lv_iload_n hx hb dX12_readLine_51 rfl (lv_at hl 2 rfl) ?_
            refine lv_if_ne (tgt := 64) hx hb dX12_readLine_52 (by decide) (fun c_55 => ?_) (fun c_55 => ?_)
            · exact kk3  _ _ _  hP hD hS (lv_sub hl [1] rfl)
            · refine lv_iload_n hx hb dX12_readLine_55 rfl (lv_at hl 0 rfl) ?_
              refine lv_iconst (v := 1) hx hb dX12_readLine_56 (by decide) ?_
              refine lv_icmp_ne (tgt := 70) hx hb dX12_readLine_57 (by decide) (fun c_56 => ?_) (fun c_56 => ?_)
              · refine lv_iload_n hx hb dX12_readLine_70 rfl (lv_at hl 0 rfl) ?_
                refine lv_bipush (v := 11) hx hb dX12_readLine_71 (by decide) ?_
                refine lv_icmp_ne (tgt := 94) hx hb dX12_readLine_73 (by decide) (fun c_57 => ?_) (fun c_57 => ?_)
                · exact kk  _ _ _ (fun h => absurd h c_57) hP hD hS (lv_sub hl [1, 0] rfl)
                · refine lv_aload_n hx hb dX12_readLine_76 rfl (lv_at hl 1 rfl) ?_
                  refine va_get (D := E.1) (ci := 12) (v := .ref (q 13)) (C := RX12) (T := TX12) (N := 59) hx hb hts inX12 hown hK hP 0 rfl rfl 13 (by decide) fl27 (fun _ h9 => h9) rfl dX12_readLine_77 ?_
                  refine lv_bipush (v := 6) hx hb dX12_readLine_80 (by decide) ?_
                  refine va_iald hx hb hK hP 1 0 rfl rfl (show vp_in 6 7 from by unfold vp_in; decide) dX12_readLine_82 ?_
                  refine lv_topi (fun x_58 ex_58 => ?_)
                  have hv_59 : inR x_58 0 12 = true := by rw [ex_58]; exact hI_boxMany _ (vin_cl (show vp_in 6 7 from by unfold vp_in; decide))
                  obtain ⟨w_60, hw_61, ew_62⟩ := inR_nI (n := 12) (by decide) hv_59
                  subst ew_62
                  refine lv_bipush (v := 12) hx hb dX12_readLine_83 (by decide) ?_
                  refine lv_icmp_ne (tgt := 94) hx hb dX12_readLine_85 (by decide) (fun c_63 => ?_) (fun c_63 => ?_)
                  · exact kk  _ _ _ (fun _ h => c_63 (ex_58.trans h)) hP hD hS (lv_sub hl [1, 0] rfl)
                  · exact kk4  _ _ _  hP hD hS (lv_sub hl [1] rfl)
              · refine lv_iload_n hx hb dX12_readLine_60 rfl (lv_at hl 3 rfl) ?_
                refine lv_if_eq (tgt := 70) hx hb dX12_readLine_61 (by decide) (fun c_64 => ?_) (fun c_64 => ?_)
                · refine lv_iload_n hx hb dX12_readLine_70 rfl (lv_at hl 0 rfl) ?_
                  refine lv_bipush (v := 11) hx hb dX12_readLine_71 (by decide) ?_
                  refine lv_icmp_ne (tgt := 94) hx hb dX12_readLine_73 (by decide) (fun c_65 => ?_) (fun c_65 => ?_)
                  · exact kk  _ _ _ (fun h => absurd h c_65) hP hD hS (lv_sub hl [1, 0] rfl)
                  · refine lv_aload_n hx hb dX12_readLine_76 rfl (lv_at hl 1 rfl) ?_
                    refine va_get (D := E.1) (ci := 12) (v := .ref (q 13)) (C := RX12) (T := TX12) (N := 59) hx hb hts inX12 hown hK hP 0 rfl rfl 13 (by decide) fl27 (fun _ h9 => h9) rfl dX12_readLine_77 ?_
                    refine lv_bipush (v := 6) hx hb dX12_readLine_80 (by decide) ?_
                    refine va_iald hx hb hK hP 1 0 rfl rfl (show vp_in 6 7 from by unfold vp_in; decide) dX12_readLine_82 ?_
                    refine lv_topi (fun x_66 ex_66 => ?_)
                    have hv_67 : inR x_66 0 12 = true := by rw [ex_66]; exact hI_boxMany _ (vin_cl (show vp_in 6 7 from by unfold vp_in; decide))
                    obtain ⟨w_68, hw_69, ew_70⟩ := inR_nI (n := 12) (by decide) hv_67
                    subst ew_70
                    refine lv_bipush (v := 12) hx hb dX12_readLine_83 (by decide) ?_
                    refine lv_icmp_ne (tgt := 94) hx hb dX12_readLine_85 (by decide) (fun c_71 => ?_) (fun c_71 => ?_)
                    · exact kk  _ _ _ (fun _ h => c_71 (ex_66.trans h)) hP hD hS (lv_sub hl [1, 0] rfl)
                    · exact kk4  _ _ _  hP hD hS (lv_sub hl [1] rfl)
                · exact kk3  _ _ _  hP hD hS (lv_sub hl [1] rfl)
        · refine lv_aload_n hx hb dX12_readLine_26 rfl (lv_at hl 0 rfl) ?_
          refine va_get (D := E.1) (ci := 12) (v := .int i_what) (C := RX12) (T := TX12) (N := 59) hx hb hts inX12 hown hK hP 0 rfl rfl 4 (by decide) fl191 (fun _ h9 => h9) rfl dX12_readLine_27 ?_
          refine lv_iconst (v := 1) hx hb dX12_readLine_30 (by decide) ?_
          refine lv_icmp_eq (tgt := 40) hx hb dX12_readLine_31 (by decide) (fun c_72 => ?_) (fun c_72 => ?_)
          · refine lv_aload_n hx hb dX12_readLine_40 rfl (lv_at hl 0 rfl) ?_
            refine va_get (D := E.1) (ci := 12) (v := .int i_what) (C := RX12) (T := TX12) (N := 59) hx hb hts inX12 hown hK hP 0 rfl rfl 4 (by decide) fl191 (fun _ h9 => h9) rfl dX12_readLine_41 ?_
            refine lv_istore_n (lv' := [(3, .int i_what), (0, .ref h0), (1, .int hc), (2, .int hf)]) hx hb dX12_readLine_44 rfl hl (by decide) rfl (fun ls hl => ?_)
            refine lv_iload_n hx hb dX12_readLine_45 rfl (lv_at hl 0 rfl) ?_
            refine lv_bipush (v := 14) hx hb dX12_readLine_46 (by decide) ?_
            refine lv_icmp_ne (tgt := 55) hx hb dX12_readLine_48 (by decide) (fun c_73 => ?_) (fun c_73 => ?_)
            · refine lv_iload_n hx hb dX12_readLine_55 rfl (lv_at hl 0 rfl) ?_
              refine lv_iconst (v := 1) hx hb dX12_readLine_56 (by decide) ?_
              refine lv_icmp_ne (tgt := 70) hx hb dX12_readLine_57 (by decide) (fun c_74 => ?_) (fun c_74 => ?_)
              · refine lv_iload_n hx hb dX12_readLine_70 rfl (lv_at hl 0 rfl) ?_
                refine lv_bipush (v := 11) hx hb dX12_readLine_71 (by decide) ?_
                refine lv_icmp_ne (tgt := 94) hx hb dX12_readLine_73 (by decide) (fun c_75 => ?_) (fun c_75 => ?_)
                · exact kk  _ _ _ (fun h => absurd h c_75) hP hD hS (lv_sub hl [1, 0] rfl)
                · refine lv_aload_n hx hb dX12_readLine_76 rfl (lv_at hl 1 rfl) ?_
                  refine va_get (D := E.1) (ci := 12) (v := .ref (q 13)) (C := RX12) (T := TX12) (N := 59) hx hb hts inX12 hown hK hP 0 rfl rfl 13 (by decide) fl27 (fun _ h9 => h9) rfl dX12_readLine_77 ?_
                  refine lv_bipush (v := 6) hx hb dX12_readLine_80 (by decide) ?_
                  refine va_iald hx hb hK hP 1 0 rfl rfl (show vp_in 6 7 from by unfold vp_in; decide) dX12_readLine_82 ?_
                  refine lv_topi (fun x_76 ex_76 => ?_)
                  have hv_77 : inR x_76 0 12 = true := by rw [ex_76]; exact hI_boxMany _ (vin_cl (show vp_in 6 7 from by unfold vp_in; decide))
                  obtain ⟨w_78, hw_79, ew_80⟩ := inR_nI (n := 12) (by decide) hv_77
                  subst ew_80
                  refine lv_bipush (v := 12) hx hb dX12_readLine_83 (by decide) ?_
                  refine lv_icmp_ne (tgt := 94) hx hb dX12_readLine_85 (by decide) (fun c_81 => ?_) (fun c_81 => ?_)
                  · exact kk  _ _ _ (fun _ h => c_81 (ex_76.trans h)) hP hD hS (lv_sub hl [1, 0] rfl)
                  · exact kk4  _ _ _  hP hD hS (lv_sub hl [1] rfl)
              · refine lv_iload_n hx hb dX12_readLine_60 rfl (lv_at hl 3 rfl) ?_
                refine lv_if_eq (tgt := 70) hx hb dX12_readLine_61 (by decide) (fun c_82 => ?_) (fun c_82 => ?_)
                · refine lv_iload_n hx hb dX12_readLine_70 rfl (lv_at hl 0 rfl) ?_
                  refine lv_bipush (v := 11) hx hb dX12_readLine_71 (by decide) ?_
                  refine lv_icmp_ne (tgt := 94) hx hb dX12_readLine_73 (by decide) (fun c_83 => ?_) (fun c_83 => ?_)
                  · exact kk  _ _ _ (fun h => absurd h c_83) hP hD hS (lv_sub hl [1, 0] rfl)
                  · refine lv_aload_n hx hb dX12_readLine_76 rfl (lv_at hl 1 rfl) ?_
                    refine va_get (D := E.1) (ci := 12) (v := .ref (q 13)) (C := RX12) (T := TX12) (N := 59) hx hb hts inX12 hown hK hP 0 rfl rfl 13 (by decide) fl27 (fun _ h9 => h9) rfl dX12_readLine_77 ?_
                    refine lv_bipush (v := 6) hx hb dX12_readLine_80 (by decide) ?_
                    refine va_iald hx hb hK hP 1 0 rfl rfl (show vp_in 6 7 from by unfold vp_in; decide) dX12_readLine_82 ?_
                    refine lv_topi (fun x_84 ex_84 => ?_)
                    have hv_85 : inR x_84 0 12 = true := by rw [ex_84]; exact hI_boxMany _ (vin_cl (show vp_in 6 7 from by unfold vp_in; decide))
                    obtain ⟨w_86, hw_87, ew_88⟩ := inR_nI (n := 12) (by decide) hv_85
                    subst ew_88
                    refine lv_bipush (v := 12) hx hb dX12_readLine_83 (by decide) ?_
                    refine lv_icmp_ne (tgt := 94) hx hb dX12_readLine_85 (by decide) (fun c_89 => ?_) (fun c_89 => ?_)
                    · exact kk  _ _ _ (fun _ h => c_89 (ex_84.trans h)) hP hD hS (lv_sub hl [1, 0] rfl)
                    · exact kk4  _ _ _  hP hD hS (lv_sub hl [1] rfl)
                · exact kk3  _ _ _  hP hD hS (lv_sub hl [1] rfl)
            · refine lv_iload_n hx hb dX12_readLine_51 rfl (lv_at hl 2 rfl) ?_
              refine lv_if_ne (tgt := 64) hx hb dX12_readLine_52 (by decide) (fun c_90 => ?_) (fun c_90 => ?_)
              · exact kk3  _ _ _  hP hD hS (lv_sub hl [1] rfl)
              · refine lv_iload_n hx hb dX12_readLine_55 rfl (lv_at hl 0 rfl) ?_
                refine lv_iconst (v := 1) hx hb dX12_readLine_56 (by decide) ?_
                refine lv_icmp_ne (tgt := 70) hx hb dX12_readLine_57 (by decide) (fun c_91 => ?_) (fun c_91 => ?_)
                · refine lv_iload_n hx hb dX12_readLine_70 rfl (lv_at hl 0 rfl) ?_
                  refine lv_bipush (v := 11) hx hb dX12_readLine_71 (by decide) ?_
                  refine lv_icmp_ne (tgt := 94) hx hb dX12_readLine_73 (by decide) (fun c_92 => ?_) (fun c_92 => ?_)
                  · exact kk  _ _ _ (fun h => absurd h c_92) hP hD hS (lv_sub hl [1, 0] rfl)
                  · refine lv_aload_n hx hb dX12_readLine_76 rfl (lv_at hl 1 rfl) ?_
                    refine va_get (D := E.1) (ci := 12) (v := .ref (q 13)) (C := RX12) (T := TX12) (N := 59) hx hb hts inX12 hown hK hP 0 rfl rfl 13 (by decide) fl27 (fun _ h9 => h9) rfl dX12_readLine_77 ?_
                    refine lv_bipush (v := 6) hx hb dX12_readLine_80 (by decide) ?_
                    refine va_iald hx hb hK hP 1 0 rfl rfl (show vp_in 6 7 from by unfold vp_in; decide) dX12_readLine_82 ?_
                    refine lv_topi (fun x_93 ex_93 => ?_)
                    have hv_94 : inR x_93 0 12 = true := by rw [ex_93]; exact hI_boxMany _ (vin_cl (show vp_in 6 7 from by unfold vp_in; decide))
                    obtain ⟨w_95, hw_96, ew_97⟩ := inR_nI (n := 12) (by decide) hv_94
                    subst ew_97
                    refine lv_bipush (v := 12) hx hb dX12_readLine_83 (by decide) ?_
                    refine lv_icmp_ne (tgt := 94) hx hb dX12_readLine_85 (by decide) (fun c_98 => ?_) (fun c_98 => ?_)
                    · exact kk  _ _ _ (fun _ h => c_98 (ex_93.trans h)) hP hD hS (lv_sub hl [1, 0] rfl)
                    · exact kk4  _ _ _  hP hD hS (lv_sub hl [1] rfl)
                · refine lv_iload_n hx hb dX12_readLine_60 rfl (lv_at hl 3 rfl) ?_
                  refine lv_if_eq (tgt := 70) hx hb dX12_readLine_61 (by decide) (fun c_99 => ?_) (fun c_99 => ?_)
                  · refine lv_iload_n hx hb dX12_readLine_70 rfl (lv_at hl 0 rfl) ?_
                    refine lv_bipush (v := 11) hx hb dX12_readLine_71 (by decide) ?_
                    refine lv_icmp_ne (tgt := 94) hx hb dX12_readLine_73 (by decide) (fun c_100 => ?_) (fun c_100 => ?_)
                    · exact kk  _ _ _ (fun h => absurd h c_100) hP hD hS (lv_sub hl [1, 0] rfl)
                    · refine lv_aload_n hx hb dX12_readLine_76 rfl (lv_at hl 1 rfl) ?_
                      refine va_get (D := E.1) (ci := 12) (v := .ref (q 13)) (C := RX12) (T := TX12) (N := 59) hx hb hts inX12 hown hK hP 0 rfl rfl 13 (by decide) fl27 (fun _ h9 => h9) rfl dX12_readLine_77 ?_
                      refine lv_bipush (v := 6) hx hb dX12_readLine_80 (by decide) ?_
                      refine va_iald hx hb hK hP 1 0 rfl rfl (show vp_in 6 7 from by unfold vp_in; decide) dX12_readLine_82 ?_
                      refine lv_topi (fun x_101 ex_101 => ?_)
                      have hv_102 : inR x_101 0 12 = true := by rw [ex_101]; exact hI_boxMany _ (vin_cl (show vp_in 6 7 from by unfold vp_in; decide))
                      obtain ⟨w_103, hw_104, ew_105⟩ := inR_nI (n := 12) (by decide) hv_102
                      subst ew_105
                      refine lv_bipush (v := 12) hx hb dX12_readLine_83 (by decide) ?_
                      refine lv_icmp_ne (tgt := 94) hx hb dX12_readLine_85 (by decide) (fun c_106 => ?_) (fun c_106 => ?_)
                      · exact kk  _ _ _ (fun _ h => c_106 (ex_101.trans h)) hP hD hS (lv_sub hl [1, 0] rfl)
                      · exact kk4  _ _ _  hP hD hS (lv_sub hl [1] rfl)
                  · exact kk3  _ _ _  hP hD hS (lv_sub hl [1] rfl)
          · exact kk2  _ _ _  hP hD hS (lv_sub hl [0] rfl)
set_option maxHeartbeats 4000000 in
set_option maxRecDepth 100000 in
theorem c_X12_readLine (l : Launch) (E : vE) (h0 : Nat) (q : Nat → Nat) (i_taped : Int32) (i_sort : Int32) (i_what : Int32) (i_at : Int32) (i_worth : Int32) (i_faultKind : Int32) (i_faultPlace : Int32) (i_got : Int32) (i_worked : Int32) (i_deliveries : Int32) (i_isPlanned : Int32) (i_bestDone : Int32) (i_bestCost : Int32) (sz9 : Nat) (en9 : Nat) (a_tape : Nat → Int32) (a_boxes : Nat → Int32) (a_boxMany : Nat → Int32) (a_minCrew : Nat → Int32) (a_maxForce : Nat → Int32) (hc : Int32) (hf : Int32) (sz : Nat) (hsz : sz9 ≤ 800) (hen : en9 ≤ sz9) (hI_boxMany : ∀ k : Nat, k < 7 → inR (a_boxMany k) 0 12 = true) : Met l yX12_readLine wsX12_readLine ({ frames := 7, cells := 0, slots := 0, locals := 157 }) (pcW E [.ref h0, .int hc, .int hf] sz [(h0, .inr (12, mG q i_taped (nI sz9) i_sort i_what i_at (nI en9) i_worth i_faultKind i_faultPlace i_got i_worked i_deliveries i_isPlanned i_bestDone i_bestCost)), (q 0, .inl (E.2.1 3, 800, .inl a_tape)), (q 12, .inl (E.2.1 0, 504, .inl a_boxes)), (q 13, .inl (E.2.1 0, 7, .inl a_boxMany)), (q 14, .inl (E.2.1 0, 7, .inl a_minCrew)), (q 15, .inl (E.2.1 0, 7, .inl a_maxForce))]) (va_Qi (fun (r : Int32) (u : Int32 × Int32 × Int32 × Nat × Int32 × Int32 × Int32 × Int32 × (Nat → Int32) × (Nat → Int32) × (Nat → Int32) × (Nat → Int32)) => match u with | (so2, wh2, at2, en2, wo2, fk2, fp2, go2, b_boxes, b_boxMany, b_minCrew, b_maxForce) => (r = 0 ∨ r = 1) ∧ (r = 0 ∨ so2 = 4 ∨ en9 < en2)) (fun (u : Int32 × Int32 × Int32 × Nat × Int32 × Int32 × Int32 × Int32 × (Nat → Int32) × (Nat → Int32) × (Nat → Int32) × (Nat → Int32)) (t : State) => match u with | (so2, wh2, at2, en2, wo2, fk2, fp2, go2, b_boxes, b_boxMany, b_minCrew, b_maxForce) => (∀ k : Nat, k < 7 → inR (b_boxMany k) 0 12 = true) ∧ (en9 ≤ en2 ∧ en2 ≤ sz9) ∧ wB E (va_A [(h0, .inr (12, mG q i_taped (nI sz9) i_sort i_what i_at (nI en9) i_worth i_faultKind i_faultPlace i_got i_worked i_deliveries i_isPlanned i_bestDone i_bestCost)), (q 0, .inl (E.2.1 3, 800, .inl a_tape)), (q 12, .inl (E.2.1 0, 504, .inl a_boxes)), (q 13, .inl (E.2.1 0, 7, .inl a_boxMany)), (q 14, .inl (E.2.1 0, 7, .inl a_minCrew)), (q 15, .inl (E.2.1 0, 7, .inl a_maxForce))] sz) [(h0, .inr (12, mG q i_taped (nI sz9) so2 wh2 at2 (nI en2) wo2 fk2 fp2 go2 i_worked i_deliveries i_isPlanned i_bestDone i_bestCost)), (q 0, .inl (E.2.1 3, 800, .inl a_tape)), (q 12, .inl (E.2.1 0, 504, .inl b_boxes)), (q 13, .inl (E.2.1 0, 7, .inl b_boxMany)), (q 14, .inl (E.2.1 0, 7, .inl b_minCrew)), (q 15, .inl (E.2.1 0, 7, .inl b_maxForce))] t) (va_A [(h0, .inr (12, mG q i_taped (nI sz9) i_sort i_what i_at (nI en9) i_worth i_faultKind i_faultPlace i_got i_worked i_deliveries i_isPlanned i_bestDone i_bestCost)), (q 0, .inl (E.2.1 3, 800, .inl a_tape)), (q 12, .inl (E.2.1 0, 504, .inl a_boxes)), (q 13, .inl (E.2.1 0, 7, .inl a_boxMany)), (q 14, .inl (E.2.1 0, 7, .inl a_minCrew)), (q 15, .inl (E.2.1 0, 7, .inl a_maxForce))] sz)) 0 0 (va_A [(h0, .inr (12, mG q i_taped (nI sz9) i_sort i_what i_at (nI en9) i_worth i_faultKind i_faultPlace i_got i_worked i_deliveries i_isPlanned i_bestDone i_bestCost)), (q 0, .inl (E.2.1 3, 800, .inl a_tape)), (q 12, .inl (E.2.1 0, 504, .inl a_boxes)), (q 13, .inl (E.2.1 0, 7, .inl a_boxMany)), (q 14, .inl (E.2.1 0, 7, .inl a_minCrew)), (q 15, .inl (E.2.1 0, 7, .inl a_maxForce))] sz) := by
  refine Met.ofW (cc := cX12_readLine) (maxL := 6) (ret := (some .boolean)) (by decide) rfl ?_
  intro p e s m args below meth c s₁ B hml hv
  obtain ⟨rfl, hsz, hP, hkn, hD0, hst⟩ := hv
  have hx := B.exec
  have hb := B.bytes
  have hr := B.returns
  have hts := atoms_spec (ws := wsX12_readLine) B.pre
  have hown : s.vm.findClass RX12 = some m.cls := findClass_of_methodNamed B.named
  have hlocks := B.notSynchronized
  subst hsz
  have hD := hD0.self (sz := s.heap.size)
  have hK := hkn.1
  have hAO := hkn.2.2.1
  generalize hAe : va_A [(h0, .inr (12, mG q i_taped (nI sz9) i_sort i_what i_at (nI en9) i_worth i_faultKind i_faultPlace i_got i_worked i_deliveries i_isPlanned i_bestDone i_bestCost)), (q 0, .inl (E.2.1 3, 800, .inl a_tape)), (q 12, .inl (E.2.1 0, 504, .inl a_boxes)), (q 13, .inl (E.2.1 0, 7, .inl a_boxMany)), (q 14, .inl (E.2.1 0, 7, .inl a_minCrew)), (q 15, .inl (E.2.1 0, 7, .inl a_maxForce))] s.heap.size = A at hD hst ⊢
  have hA : ∀ q : Nat, s.heap.size ≤ q → A q := fun q h => by rw [← hAe]; exact Or.inr h
  have hS : va_S A s.heap s.heap [] := va_S.rf
  have hP : va_P E.1 vwCl [(h0, .inr (12, mG q i_taped (nI sz9) i_sort i_what i_at (nI en9) i_worth i_faultKind i_faultPlace i_got i_worked i_deliveries i_isPlanned i_bestDone i_bestCost)), (q 0, .inl (E.2.1 3, 800, .inl a_tape)), (q 12, .inl (E.2.1 0, 504, .inl a_boxes)), (q 13, .inl (E.2.1 0, 7, .inl a_boxMany)), (q 14, .inl (E.2.1 0, 7, .inl a_minCrew)), (q 15, .inl (E.2.1 0, 7, .inl a_maxForce))] s.heap := hP
  have hl := lv_entry ([.ref h0, .int hc, .int hf]) (n := 6) (Nat.le_of_ble_eq_true rfl)
  rw [lg_entry_eq]
  generalize (lg_sl ([.ref h0, .int hc, .int hf]) ++ List.replicate (6 - (lg_sl ([.ref h0, .int hc, .int hf])).length) Slot.unset).toArray = ls at hl ⊢
  have hl : lv_has ls 6 [(0, .ref h0), (1, .int hc), (2, .int hf)] := hl
  have fl24 := hts (.fieldLink RX12 24 "BoatsHomeModel" "boxes" "[I") (by first | exact List.mem_of_getElem? (i := 7) rfl | decide +kernel)
  have fl27 := hts (.fieldLink RX12 27 "BoatsHomeModel" "boxMany" "[I") (by first | exact List.mem_of_getElem? (i := 3) rfl | decide +kernel)
  have fl30 := hts (.fieldLink RX12 30 "BoatsHomeModel" "minCrew" "[I") (by first | exact List.mem_of_getElem? (i := 4) rfl | decide +kernel)
  have fl33 := hts (.fieldLink RX12 33 "BoatsHomeModel" "maxForce" "[I") (by first | exact List.mem_of_getElem? (i := 6) rfl | decide +kernel)
  have fl180 := hts (.fieldLink RX12 180 "BoatsHomeModel" "sort" "I") (by first | exact List.mem_of_getElem? (i := 1) rfl | decide +kernel)
  have fl191 := hts (.fieldLink RX12 191 "BoatsHomeModel" "what" "I") (by first | exact List.mem_of_getElem? (i := 2) rfl | decide +kernel)
  have fl206 := hts (.fieldLink RX12 206 "BoatsHomeModel" "got" "I") (by first | exact List.mem_of_getElem? (i := 5) rfl | decide +kernel)
  have inX12 : ∀ w ∈ u_ws RX12 TX12 59, w ∈ wsX12_readLine := by first | exact fun w h9 => (List.mem_cons_of_mem _ (List.mem_append_right _ h9)) | decide +kernel
  have hPl := hP.sub (ws' := [(h0, .inr (12, mG q i_taped (nI sz9) i_sort i_what i_at (nI en9) i_worth i_faultKind i_faultPlace i_got i_worked i_deliveries i_isPlanned i_bestDone i_bestCost)), (q 13, .inl (E.2.1 0, 7, .inl a_boxMany)), (q 0, .inl (E.2.1 3, 800, .inl a_tape)), (q 12, .inl (E.2.1 0, 504, .inl a_boxes)), (q 14, .inl (E.2.1 0, 7, .inl a_minCrew)), (q 15, .inl (E.2.1 0, 7, .inl a_maxForce))]) [0, 3, 1, 2, 4, 5] rfl
  have hDl := hD.sub (ws' := [(h0, .inr (12, mG q i_taped (nI sz9) i_sort i_what i_at (nI en9) i_worth i_faultKind i_faultPlace i_got i_worked i_deliveries i_isPlanned i_bestDone i_bestCost)), (q 13, .inl (E.2.1 0, 7, .inl a_boxMany)), (q 0, .inl (E.2.1 3, 800, .inl a_tape)), (q 12, .inl (E.2.1 0, 504, .inl a_boxes)), (q 14, .inl (E.2.1 0, 7, .inl a_minCrew)), (q 15, .inl (E.2.1 0, 7, .inl a_maxForce))]) [0, 3, 1, 2, 4, 5] (by decide) rfl
  refine lm_line0 E h0 q i_taped i_sort i_what i_at i_worth i_faultKind i_faultPlace i_got i_worked i_deliveries i_isPlanned i_bestDone i_bestCost sz9 en9 hc hf a_boxMany ([(q 0, .inl (E.2.1 3, 800, .inl a_tape)), (q 12, .inl (E.2.1 0, 504, .inl a_boxes)), (q 14, .inl (E.2.1 0, 7, .inl a_minCrew)), (q 15, .inl (E.2.1 0, 7, .inl a_maxForce))]) hx hb hml hown hts hkn hst hA hI_boxMany (fun  H locs ls hbm hP hD hS hl => ?_) (fun  H locs ls  hP hD hS hl => ?_) (fun  H locs ls  hP hD hS hl => ?_) (fun  H locs ls  hP hD hS hl => ?_) 1  _ _ _ (by omega) hPl hDl hS (lv_sub hl [0, 1, 2] rfl)
  · have hP : va_P E.1 vwCl [(h0, .inr (12, mG q i_taped (nI sz9) i_sort i_what i_at (nI en9) i_worth i_faultKind i_faultPlace i_got i_worked i_deliveries i_isPlanned i_bestDone i_bestCost)), (q 13, .inl (E.2.1 0, 7, .inl a_boxMany)), (q 0, .inl (E.2.1 3, 800, .inl a_tape)), (q 12, .inl (E.2.1 0, 504, .inl a_boxes)), (q 14, .inl (E.2.1 0, 7, .inl a_minCrew)), (q 15, .inl (E.2.1 0, 7, .inl a_maxForce))] H := hP
    have hD : va_D A [(h0, .inr (12, mG q i_taped (nI sz9) i_sort i_what i_at (nI en9) i_worth i_faultKind i_faultPlace i_got i_worked i_deliveries i_isPlanned i_bestDone i_bestCost)), (q 13, .inl (E.2.1 0, 7, .inl a_boxMany)), (q 0, .inl (E.2.1 3, 800, .inl a_tape)), (q 12, .inl (E.2.1 0, 504, .inl a_boxes)), (q 14, .inl (E.2.1 0, 7, .inl a_minCrew)), (q 15, .inl (E.2.1 0, 7, .inl a_maxForce))] := hD
    refine lv_aload_n hx hb dX12_readLine_94 rfl (lv_at hl 0 rfl) ?_
    have hPc := hP.sub (ws' := [(h0, .inr (12, mG q i_taped (nI sz9) i_sort i_what i_at (nI en9) i_worth i_faultKind i_faultPlace i_got i_worked i_deliveries i_isPlanned i_bestDone i_bestCost)), (q 0, .inl (E.2.1 3, 800, .inl a_tape))]) [0, 2] rfl
    have hDc := hD.sub (ws' := [(h0, .inr (12, mG q i_taped (nI sz9) i_sort i_what i_at (nI en9) i_worth i_faultKind i_faultPlace i_got i_worked i_deliveries i_isPlanned i_bestDone i_bestCost)), (q 0, .inl (E.2.1 3, 800, .inl a_tape))]) [0, 2] (by decide) rfl
    have hFc := va_free (wc := [(h0, .inr (12, mG q i_taped (nI sz9) i_sort i_what i_at (nI en9) i_worth i_faultKind i_faultPlace i_got i_worked i_deliveries i_isPlanned i_bestDone i_bestCost)), (q 0, .inl (E.2.1 3, 800, .inl a_tape))]) hD hS hA [0, 2] rfl
    refine va_callv (va_runV (As := []) (rest := []) ⟨hx, hb, hml, hown, hts⟩ (c_X12_scan l E h0 q i_taped i_sort i_what i_at i_worth i_faultKind i_faultPlace i_got i_worked i_deliveries i_isPlanned i_bestDone i_bestCost sz9 en9 a_tape H.size (by omega) (by omega)) (cwV 0 hts gX12_readLine_X12_scan rfl rfl rfl hdV_X12_scan ⟨Nat.le_of_ble_eq_true rfl, Nat.le_of_ble_eq_true rfl⟩) ⟨pcW_blind, va_recv hK hPc (ci := 12) (q0 := 0) rfl rfl, (pcW_pre hPc hkn hDc hst hS hFc)⟩ rfl rfl hl.1 rfl (lv_room (Nat.le_of_ble_eq_true rfl)) dX12_readLine_95 ⟨Nat.le_of_ble_eq_true rfl, Nat.le_of_ble_eq_true rfl⟩) hS (fun q _ h => hFc q h) hFc (fun u t H1 locs ht hvm hw_2 hB hz1 hk1 hS => ?_)
    obtain ⟨u_3, u_4, u_5, u_6, u_7⟩ := u
    obtain ⟨hf_8, hf_9, hP1, hD1⟩ := hB
    rw [ht] at hP1
    try dsimp only at hw_2
    obtain ⟨hP, hD⟩ := va_join (wr := [(q 13, .inl (E.2.1 0, 7, .inl a_boxMany)), (q 12, .inl (E.2.1 0, 504, .inl a_boxes)), (q 14, .inl (E.2.1 0, 7, .inl a_minCrew)), (q 15, .inl (E.2.1 0, 7, .inl a_maxForce))]) (w1 := [(h0, .inr (12, mG q i_taped (nI sz9) u_3 u_4 u_5 (nI u_6) u_7 i_faultKind i_faultPlace i_got i_worked i_deliveries i_isPlanned i_bestDone i_bestCost)), (q 0, .inl (E.2.1 3, 800, .inl a_tape))]) hP hD [0, 2] [1, 3, 4, 5] rfl rfl (by decide) (by decide) hk1 hFc hP1 hD1
    generalize H1 = H at hP hS ⊢
    have hP : va_P E.1 vwCl [(q 13, .inl (E.2.1 0, 7, .inl a_boxMany)), (q 12, .inl (E.2.1 0, 504, .inl a_boxes)), (q 14, .inl (E.2.1 0, 7, .inl a_minCrew)), (q 15, .inl (E.2.1 0, 7, .inl a_maxForce)), (h0, .inr (12, mG q i_taped (nI sz9) u_3 u_4 u_5 (nI u_6) u_7 i_faultKind i_faultPlace i_got i_worked i_deliveries i_isPlanned i_bestDone i_bestCost)), (q 0, .inl (E.2.1 3, 800, .inl a_tape))] H := hP
    have hD : va_D A [(q 13, .inl (E.2.1 0, 7, .inl a_boxMany)), (q 12, .inl (E.2.1 0, 504, .inl a_boxes)), (q 14, .inl (E.2.1 0, 7, .inl a_minCrew)), (q 15, .inl (E.2.1 0, 7, .inl a_maxForce)), (h0, .inr (12, mG q i_taped (nI sz9) u_3 u_4 u_5 (nI u_6) u_7 i_faultKind i_faultPlace i_got i_worked i_deliveries i_isPlanned i_bestDone i_bestCost)), (q 0, .inl (E.2.1 3, 800, .inl a_tape))] := hD
    refine lv_iload_n hx hb dX12_readLine_98 rfl (lv_at hl 1 rfl) ?_
    refine lv_bipush (v := 11) hx hb dX12_readLine_99 (by decide) ?_
    refine lv_icmp_eq (tgt := 149) hx hb dX12_readLine_101 (by decide) (fun c_10 => ?_) (fun c_10 => ?_)
    · refine lv_bipush (v := 6) hx hb dX12_readLine_149 (by decide) ?_
      refine lv_bipush (v := 72) hx hb dX12_readLine_151 (by decide) ?_
      refine lv_aload_n hx hb dX12_readLine_153 rfl (lv_at hl 0 rfl) ?_
      refine va_get (D := E.1) (ci := 12) (v := .ref (q 13)) (C := RX12) (T := TX12) (N := 59) hx hb hts inX12 hown hK hP 4 rfl rfl 13 (by decide) fl27 (fun _ h9 => h9) rfl dX12_readLine_154 ?_
      refine lv_bipush (v := 6) hx hb dX12_readLine_157 (by decide) ?_
      refine va_iald hx hb hK hP 0 0 rfl rfl (show vp_in 6 7 from by unfold vp_in; decide) dX12_readLine_159 ?_
      refine lv_topi (fun x_11 ex_11 => ?_)
      have hv_12 : inR x_11 0 12 = true := by rw [ex_11]; exact hI_boxMany _ (vin_cl (show vp_in 6 7 from by unfold vp_in; decide))
      obtain ⟨w_13, hw_14, ew_15⟩ := inR_nI (n := 12) (by decide) hv_12
      subst ew_15
      have hb12 : w_13 < 12 := by
        rcases Nat.lt_or_ge w_13 12 with q | q
        · exact q
        · exact absurd (ex_11.symm.trans (by rw [show w_13 = 12 by omega]; rfl)) (hbm c_10)
      refine lv_iadd hx hb dX12_readLine_160 ?_
      refine lv_topi (fun x_16 ex_16 => ?_)
      obtain rfl : x_16 = nI (72 + w_13) := ex_16.trans (nI_add 72 w_13)
      refine lv_imul hx hb dX12_readLine_161 ?_
      refine lv_topi (fun x_17 ex_17 => ?_)
      obtain rfl : x_17 = nI (6 * (72 + w_13)) := ex_17.trans (pk_mul 6 (72 + w_13))
      refine lv_istore (lv' := [(4, .int (nI (6 * (72 + w_13)))), (0, .ref h0), (3, .int i_what)]) hx hb dX12_readLine_162 hl (by decide) rfl (fun ls hl => ?_)
      refine lv_iconst (v := 0) hx hb dX12_readLine_164 (by decide) ?_
      refine lv_istore (lv' := [(5, .int 0), (4, .int (nI (6 * (72 + w_13)))), (0, .ref h0), (3, .int i_what)]) hx hb dX12_readLine_165 hl (by decide) rfl (fun ls hl => ?_)
      refine lv_iload hx hb dX12_readLine_167 (lv_at hl 0 rfl) ?_
      refine lv_iconst (v := 4) hx hb dX12_readLine_169 (by decide) ?_
      refine lv_icmp_ge (tgt := 216) hx hb dX12_readLine_170 (by decide) (fun c9 => absurd c9 (by decide)) (fun _ => ?_)
      refine lv_aload_n hx hb dX12_readLine_173 rfl (lv_at hl 2 rfl) ?_
      refine lv_iload hx hb dX12_readLine_174 (lv_at hl 0 rfl) ?_
      refine lv_iconst (v := 2) hx hb dX12_readLine_176 (by decide) ?_
      refine lv_irem hx hb dX12_readLine_177 (by decide) ?_
      refine lv_topi (fun x_18 ex_18 => ?_)
      obtain rfl : x_18 = 0 := ex_18.trans (by decide +kernel)
      refine lv_if_ne (tgt := 186) hx hb dX12_readLine_178 (by decide) (fun c9 => absurd c9 (by decide)) (fun _ => ?_)
      refine lv_bipush (v := 29) hx hb dX12_readLine_181 (by decide) ?_
      refine lv_goto (tgt := 188) hx hb dX12_readLine_183 (by decide) ?_
      have hPc := hP.sub (ws' := [(h0, .inr (12, mG q i_taped (nI sz9) u_3 u_4 u_5 (nI u_6) u_7 i_faultKind i_faultPlace i_got i_worked i_deliveries i_isPlanned i_bestDone i_bestCost)), (q 0, .inl (E.2.1 3, 800, .inl a_tape))]) [4, 5] rfl
      have hDc := hD.sub (ws' := [(h0, .inr (12, mG q i_taped (nI sz9) u_3 u_4 u_5 (nI u_6) u_7 i_faultKind i_faultPlace i_got i_worked i_deliveries i_isPlanned i_bestDone i_bestCost)), (q 0, .inl (E.2.1 3, 800, .inl a_tape))]) [4, 5] (by decide) rfl
      have hFc := va_free (wc := [(h0, .inr (12, mG q i_taped (nI sz9) u_3 u_4 u_5 (nI u_6) u_7 i_faultKind i_faultPlace i_got i_worked i_deliveries i_isPlanned i_bestDone i_bestCost)), (q 0, .inl (E.2.1 3, 800, .inl a_tape))]) hD hS hA [4, 5] rfl
      refine va_calli (va_runV (As := [.int 29]) (rest := []) ⟨hx, hb, hml, hown, hts⟩ (c_X12_number l E h0 q i_taped u_3 u_4 u_5 u_7 i_faultKind i_faultPlace i_got i_worked i_deliveries i_isPlanned i_bestDone i_bestCost sz9 u_6 a_tape 29 H.size (by omega) (by omega)) (cwV 1 hts gX12_readLine_X12_number rfl rfl rfl hdV_X12_number ⟨Nat.le_of_ble_eq_true rfl, Nat.le_of_ble_eq_true rfl⟩) ⟨pcW_blind, va_recv hK hPc (ci := 12) (q0 := 0) rfl rfl, (pcW_pre hPc hkn hDc hst hS hFc)⟩ rfl rfl hl.1 rfl (lv_room (Nat.le_of_ble_eq_true rfl)) dX12_readLine_188 ⟨Nat.le_of_ble_eq_true rfl, Nat.le_of_ble_eq_true rfl⟩) hS (fun q _ h => hFc q h) hFc (fun r_19 u t H1 locs ht hvm hw_20 hB hz1 hk1 hS => ?_)
      obtain ⟨u_21, u_22, u_23, u_24, u_25, u_26, u_27, u_28⟩ := u
      obtain ⟨hf_29, hP1, hD1⟩ := hB
      rw [ht] at hP1
      try dsimp only at hw_20
      obtain ⟨hP, hD⟩ := va_join (wr := [(q 13, .inl (E.2.1 0, 7, .inl a_boxMany)), (q 12, .inl (E.2.1 0, 504, .inl a_boxes)), (q 14, .inl (E.2.1 0, 7, .inl a_minCrew)), (q 15, .inl (E.2.1 0, 7, .inl a_maxForce))]) (w1 := [(h0, .inr (12, mG q i_taped (nI sz9) u_21 u_22 u_23 (nI u_24) u_25 u_26 u_27 u_28 i_worked i_deliveries i_isPlanned i_bestDone i_bestCost)), (q 0, .inl (E.2.1 3, 800, .inl a_tape))]) hP hD [4, 5] [0, 1, 2, 3] rfl rfl (by decide) (by decide) hk1 hFc hP1 hD1
      generalize H1 = H at hP hS ⊢
      have hP : va_P E.1 vwCl [(q 13, .inl (E.2.1 0, 7, .inl a_boxMany)), (q 12, .inl (E.2.1 0, 504, .inl a_boxes)), (q 14, .inl (E.2.1 0, 7, .inl a_minCrew)), (q 15, .inl (E.2.1 0, 7, .inl a_maxForce)), (h0, .inr (12, mG q i_taped (nI sz9) u_21 u_22 u_23 (nI u_24) u_25 u_26 u_27 u_28 i_worked i_deliveries i_isPlanned i_bestDone i_bestCost)), (q 0, .inl (E.2.1 3, 800, .inl a_tape))] H := hP
      have hD : va_D A [(q 13, .inl (E.2.1 0, 7, .inl a_boxMany)), (q 12, .inl (E.2.1 0, 504, .inl a_boxes)), (q 14, .inl (E.2.1 0, 7, .inl a_minCrew)), (q 15, .inl (E.2.1 0, 7, .inl a_maxForce)), (h0, .inr (12, mG q i_taped (nI sz9) u_21 u_22 u_23 (nI u_24) u_25 u_26 u_27 u_28 i_worked i_deliveries i_isPlanned i_bestDone i_bestCost)), (q 0, .inl (E.2.1 3, 800, .inl a_tape))] := hD
      refine lv_if_ne (tgt := 196) hx hb dX12_readLine_191 (by decide) (fun c_30 => ?_) (fun c_30 => ?_)
      · refine lv_aload_n hx hb dX12_readLine_196 rfl (lv_at hl 2 rfl) ?_
        refine va_get (D := E.1) (ci := 12) (v := .ref (q 12)) (C := RX12) (T := TX12) (N := 59) hx hb hts inX12 hown hK hP 4 rfl rfl 12 (by decide) fl24 (fun _ h9 => h9) rfl dX12_readLine_197 ?_
        refine lv_iload hx hb dX12_readLine_200 (lv_at hl 1 rfl) ?_
        refine lv_iload hx hb dX12_readLine_202 (lv_at hl 0 rfl) ?_
        refine lv_iadd hx hb dX12_readLine_204 ?_
        refine lv_topi (fun x_31 ex_31 => ?_)
        obtain rfl : x_31 = nI ((6 * (72 + w_13)) + 0) := ex_31.trans (nI_add (6 * (72 + w_13)) 0)
        refine lv_aload_n hx hb dX12_readLine_205 rfl (lv_at hl 2 rfl) ?_
        refine va_get (D := E.1) (ci := 12) (v := .int u_28) (C := RX12) (T := TX12) (N := 59) hx hb hts inX12 hown hK hP 4 rfl rfl 16 (by decide) fl206 (fun _ h9 => h9) rfl dX12_readLine_206 ?_
        have hi_32 : vp_in (nI ((6 * (72 + w_13)) + 0)) 504 := vp_in_nI (by omega) (by decide)
        refine va_iast hx hb hK hP hD hS 1 0 rfl rfl hi_32 dX12_readLine_209 (fun H locs hP hD hS => ?_)
        have hP : va_P E.1 vwCl [(q 13, .inl (E.2.1 0, 7, .inl a_boxMany)), (q 12, .inl (E.2.1 0, 504, .inl (upd a_boxes (nI ((6 * (72 + w_13)) + 0)).toNatClampNeg u_28))), (q 14, .inl (E.2.1 0, 7, .inl a_minCrew)), (q 15, .inl (E.2.1 0, 7, .inl a_maxForce)), (h0, .inr (12, mG q i_taped (nI sz9) u_21 u_22 u_23 (nI u_24) u_25 u_26 u_27 u_28 i_worked i_deliveries i_isPlanned i_bestDone i_bestCost)), (q 0, .inl (E.2.1 3, 800, .inl a_tape))] H := hP
        have hD : va_D A [(q 13, .inl (E.2.1 0, 7, .inl a_boxMany)), (q 12, .inl (E.2.1 0, 504, .inl (upd a_boxes (nI ((6 * (72 + w_13)) + 0)).toNatClampNeg u_28))), (q 14, .inl (E.2.1 0, 7, .inl a_minCrew)), (q 15, .inl (E.2.1 0, 7, .inl a_maxForce)), (h0, .inr (12, mG q i_taped (nI sz9) u_21 u_22 u_23 (nI u_24) u_25 u_26 u_27 u_28 i_worked i_deliveries i_isPlanned i_bestDone i_bestCost)), (q 0, .inl (E.2.1 3, 800, .inl a_tape))] := hD
        obtain ⟨f_33, ef_33⟩ : ∃ g : Nat → Int32, g = upd a_boxes (nI ((6 * (72 + w_13)) + 0)).toNatClampNeg u_28 := ⟨_, rfl⟩
        rw [← ef_33] at hP hD
        refine lv_iinc (v := 1) (lv' := [(5, .int 1), (4, .int (nI (6 * (72 + w_13)))), (0, .ref h0), (3, .int i_what)]) hx hb dX12_readLine_210 hl (k := 0) rfl (by decide) (by decide) rfl (fun ls hl => ?_)
        refine lv_goto (tgt := 167) hx hb dX12_readLine_213 (by decide) ?_
        refine lv_iload hx hb dX12_readLine_167 (lv_at hl 0 rfl) ?_
        refine lv_iconst (v := 4) hx hb dX12_readLine_169 (by decide) ?_
        refine lv_icmp_ge (tgt := 216) hx hb dX12_readLine_170 (by decide) (fun c9 => absurd c9 (by decide)) (fun _ => ?_)
        refine lv_aload_n hx hb dX12_readLine_173 rfl (lv_at hl 2 rfl) ?_
        refine lv_iload hx hb dX12_readLine_174 (lv_at hl 0 rfl) ?_
        refine lv_iconst (v := 2) hx hb dX12_readLine_176 (by decide) ?_
        refine lv_irem hx hb dX12_readLine_177 (by decide) ?_
        refine lv_topi (fun x_34 ex_34 => ?_)
        obtain rfl : x_34 = 1 := ex_34.trans (by decide +kernel)
        refine lv_if_ne (tgt := 186) hx hb dX12_readLine_178 (by decide) (fun _ => ?_) (fun c9 => absurd c9 (by decide))
        refine lv_bipush (v := 19) hx hb dX12_readLine_186 (by decide) ?_
        have hPc := hP.sub (ws' := [(h0, .inr (12, mG q i_taped (nI sz9) u_21 u_22 u_23 (nI u_24) u_25 u_26 u_27 u_28 i_worked i_deliveries i_isPlanned i_bestDone i_bestCost)), (q 0, .inl (E.2.1 3, 800, .inl a_tape))]) [4, 5] rfl
        have hDc := hD.sub (ws' := [(h0, .inr (12, mG q i_taped (nI sz9) u_21 u_22 u_23 (nI u_24) u_25 u_26 u_27 u_28 i_worked i_deliveries i_isPlanned i_bestDone i_bestCost)), (q 0, .inl (E.2.1 3, 800, .inl a_tape))]) [4, 5] (by decide) rfl
        have hFc := va_free (wc := [(h0, .inr (12, mG q i_taped (nI sz9) u_21 u_22 u_23 (nI u_24) u_25 u_26 u_27 u_28 i_worked i_deliveries i_isPlanned i_bestDone i_bestCost)), (q 0, .inl (E.2.1 3, 800, .inl a_tape))]) hD hS hA [4, 5] rfl
        refine va_calli (va_runV (As := [.int 19]) (rest := []) ⟨hx, hb, hml, hown, hts⟩ (c_X12_number l E h0 q i_taped u_21 u_22 u_23 u_25 u_26 u_27 u_28 i_worked i_deliveries i_isPlanned i_bestDone i_bestCost sz9 u_24 a_tape 19 H.size (by omega) (by omega)) (cwV 1 hts gX12_readLine_X12_number rfl rfl rfl hdV_X12_number ⟨Nat.le_of_ble_eq_true rfl, Nat.le_of_ble_eq_true rfl⟩) ⟨pcW_blind, va_recv hK hPc (ci := 12) (q0 := 0) rfl rfl, (pcW_pre hPc hkn hDc hst hS hFc)⟩ rfl rfl hl.1 rfl (lv_room (Nat.le_of_ble_eq_true rfl)) dX12_readLine_188 ⟨Nat.le_of_ble_eq_true rfl, Nat.le_of_ble_eq_true rfl⟩) hS (fun q _ h => hFc q h) hFc (fun r_35 u t H1 locs ht hvm hw_36 hB hz1 hk1 hS => ?_)
        obtain ⟨u_37, u_38, u_39, u_40, u_41, u_42, u_43, u_44⟩ := u
        obtain ⟨hf_45, hP1, hD1⟩ := hB
        rw [ht] at hP1
        try dsimp only at hw_36
        obtain ⟨hP, hD⟩ := va_join (wr := [(q 13, .inl (E.2.1 0, 7, .inl a_boxMany)), (q 12, .inl (E.2.1 0, 504, .inl f_33)), (q 14, .inl (E.2.1 0, 7, .inl a_minCrew)), (q 15, .inl (E.2.1 0, 7, .inl a_maxForce))]) (w1 := [(h0, .inr (12, mG q i_taped (nI sz9) u_37 u_38 u_39 (nI u_40) u_41 u_42 u_43 u_44 i_worked i_deliveries i_isPlanned i_bestDone i_bestCost)), (q 0, .inl (E.2.1 3, 800, .inl a_tape))]) hP hD [4, 5] [0, 1, 2, 3] rfl rfl (by decide) (by decide) hk1 hFc hP1 hD1
        generalize H1 = H at hP hS ⊢
        have hP : va_P E.1 vwCl [(q 13, .inl (E.2.1 0, 7, .inl a_boxMany)), (q 12, .inl (E.2.1 0, 504, .inl f_33)), (q 14, .inl (E.2.1 0, 7, .inl a_minCrew)), (q 15, .inl (E.2.1 0, 7, .inl a_maxForce)), (h0, .inr (12, mG q i_taped (nI sz9) u_37 u_38 u_39 (nI u_40) u_41 u_42 u_43 u_44 i_worked i_deliveries i_isPlanned i_bestDone i_bestCost)), (q 0, .inl (E.2.1 3, 800, .inl a_tape))] H := hP
        have hD : va_D A [(q 13, .inl (E.2.1 0, 7, .inl a_boxMany)), (q 12, .inl (E.2.1 0, 504, .inl f_33)), (q 14, .inl (E.2.1 0, 7, .inl a_minCrew)), (q 15, .inl (E.2.1 0, 7, .inl a_maxForce)), (h0, .inr (12, mG q i_taped (nI sz9) u_37 u_38 u_39 (nI u_40) u_41 u_42 u_43 u_44 i_worked i_deliveries i_isPlanned i_bestDone i_bestCost)), (q 0, .inl (E.2.1 3, 800, .inl a_tape))] := hD
        refine lv_if_ne (tgt := 196) hx hb dX12_readLine_191 (by decide) (fun c_46 => ?_) (fun c_46 => ?_)
        · refine lv_aload_n hx hb dX12_readLine_196 rfl (lv_at hl 2 rfl) ?_
          refine va_get (D := E.1) (ci := 12) (v := .ref (q 12)) (C := RX12) (T := TX12) (N := 59) hx hb hts inX12 hown hK hP 4 rfl rfl 12 (by decide) fl24 (fun _ h9 => h9) rfl dX12_readLine_197 ?_
          refine lv_iload hx hb dX12_readLine_200 (lv_at hl 1 rfl) ?_
          refine lv_iload hx hb dX12_readLine_202 (lv_at hl 0 rfl) ?_
          refine lv_iadd hx hb dX12_readLine_204 ?_
          refine lv_topi (fun x_47 ex_47 => ?_)
          obtain rfl : x_47 = nI ((6 * (72 + w_13)) + 1) := ex_47.trans (nI_1 _)
          refine lv_aload_n hx hb dX12_readLine_205 rfl (lv_at hl 2 rfl) ?_
          refine va_get (D := E.1) (ci := 12) (v := .int u_44) (C := RX12) (T := TX12) (N := 59) hx hb hts inX12 hown hK hP 4 rfl rfl 16 (by decide) fl206 (fun _ h9 => h9) rfl dX12_readLine_206 ?_
          have hi_48 : vp_in (nI ((6 * (72 + w_13)) + 1)) 504 := vp_in_nI (by omega) (by decide)
          refine va_iast hx hb hK hP hD hS 1 0 rfl rfl hi_48 dX12_readLine_209 (fun H locs hP hD hS => ?_)
          have hP : va_P E.1 vwCl [(q 13, .inl (E.2.1 0, 7, .inl a_boxMany)), (q 12, .inl (E.2.1 0, 504, .inl (upd f_33 (nI ((6 * (72 + w_13)) + 1)).toNatClampNeg u_44))), (q 14, .inl (E.2.1 0, 7, .inl a_minCrew)), (q 15, .inl (E.2.1 0, 7, .inl a_maxForce)), (h0, .inr (12, mG q i_taped (nI sz9) u_37 u_38 u_39 (nI u_40) u_41 u_42 u_43 u_44 i_worked i_deliveries i_isPlanned i_bestDone i_bestCost)), (q 0, .inl (E.2.1 3, 800, .inl a_tape))] H := hP
          have hD : va_D A [(q 13, .inl (E.2.1 0, 7, .inl a_boxMany)), (q 12, .inl (E.2.1 0, 504, .inl (upd f_33 (nI ((6 * (72 + w_13)) + 1)).toNatClampNeg u_44))), (q 14, .inl (E.2.1 0, 7, .inl a_minCrew)), (q 15, .inl (E.2.1 0, 7, .inl a_maxForce)), (h0, .inr (12, mG q i_taped (nI sz9) u_37 u_38 u_39 (nI u_40) u_41 u_42 u_43 u_44 i_worked i_deliveries i_isPlanned i_bestDone i_bestCost)), (q 0, .inl (E.2.1 3, 800, .inl a_tape))] := hD
          obtain ⟨f_49, ef_49⟩ : ∃ g : Nat → Int32, g = upd f_33 (nI ((6 * (72 + w_13)) + 1)).toNatClampNeg u_44 := ⟨_, rfl⟩
          rw [← ef_49] at hP hD
          refine lv_iinc (v := 2) (lv' := [(5, .int 2), (4, .int (nI (6 * (72 + w_13)))), (0, .ref h0), (3, .int i_what)]) hx hb dX12_readLine_210 hl (k := 0) rfl (by decide) (by decide) rfl (fun ls hl => ?_)
          refine lv_goto (tgt := 167) hx hb dX12_readLine_213 (by decide) ?_
          refine lv_iload hx hb dX12_readLine_167 (lv_at hl 0 rfl) ?_
          refine lv_iconst (v := 4) hx hb dX12_readLine_169 (by decide) ?_
          refine lv_icmp_ge (tgt := 216) hx hb dX12_readLine_170 (by decide) (fun c9 => absurd c9 (by decide)) (fun _ => ?_)
          refine lv_aload_n hx hb dX12_readLine_173 rfl (lv_at hl 2 rfl) ?_
          refine lv_iload hx hb dX12_readLine_174 (lv_at hl 0 rfl) ?_
          refine lv_iconst (v := 2) hx hb dX12_readLine_176 (by decide) ?_
          refine lv_irem hx hb dX12_readLine_177 (by decide) ?_
          refine lv_topi (fun x_50 ex_50 => ?_)
          obtain rfl : x_50 = 0 := ex_50.trans (by decide +kernel)
          refine lv_if_ne (tgt := 186) hx hb dX12_readLine_178 (by decide) (fun c9 => absurd c9 (by decide)) (fun _ => ?_)
          refine lv_bipush (v := 29) hx hb dX12_readLine_181 (by decide) ?_
          refine lv_goto (tgt := 188) hx hb dX12_readLine_183 (by decide) ?_
          have hPc := hP.sub (ws' := [(h0, .inr (12, mG q i_taped (nI sz9) u_37 u_38 u_39 (nI u_40) u_41 u_42 u_43 u_44 i_worked i_deliveries i_isPlanned i_bestDone i_bestCost)), (q 0, .inl (E.2.1 3, 800, .inl a_tape))]) [4, 5] rfl
          have hDc := hD.sub (ws' := [(h0, .inr (12, mG q i_taped (nI sz9) u_37 u_38 u_39 (nI u_40) u_41 u_42 u_43 u_44 i_worked i_deliveries i_isPlanned i_bestDone i_bestCost)), (q 0, .inl (E.2.1 3, 800, .inl a_tape))]) [4, 5] (by decide) rfl
          have hFc := va_free (wc := [(h0, .inr (12, mG q i_taped (nI sz9) u_37 u_38 u_39 (nI u_40) u_41 u_42 u_43 u_44 i_worked i_deliveries i_isPlanned i_bestDone i_bestCost)), (q 0, .inl (E.2.1 3, 800, .inl a_tape))]) hD hS hA [4, 5] rfl
          refine va_calli (va_runV (As := [.int 29]) (rest := []) ⟨hx, hb, hml, hown, hts⟩ (c_X12_number l E h0 q i_taped u_37 u_38 u_39 u_41 u_42 u_43 u_44 i_worked i_deliveries i_isPlanned i_bestDone i_bestCost sz9 u_40 a_tape 29 H.size (by omega) (by omega)) (cwV 1 hts gX12_readLine_X12_number rfl rfl rfl hdV_X12_number ⟨Nat.le_of_ble_eq_true rfl, Nat.le_of_ble_eq_true rfl⟩) ⟨pcW_blind, va_recv hK hPc (ci := 12) (q0 := 0) rfl rfl, (pcW_pre hPc hkn hDc hst hS hFc)⟩ rfl rfl hl.1 rfl (lv_room (Nat.le_of_ble_eq_true rfl)) dX12_readLine_188 ⟨Nat.le_of_ble_eq_true rfl, Nat.le_of_ble_eq_true rfl⟩) hS (fun q _ h => hFc q h) hFc (fun r_51 u t H1 locs ht hvm hw_52 hB hz1 hk1 hS => ?_)
          obtain ⟨u_53, u_54, u_55, u_56, u_57, u_58, u_59, u_60⟩ := u
          obtain ⟨hf_61, hP1, hD1⟩ := hB
          rw [ht] at hP1
          try dsimp only at hw_52
          obtain ⟨hP, hD⟩ := va_join (wr := [(q 13, .inl (E.2.1 0, 7, .inl a_boxMany)), (q 12, .inl (E.2.1 0, 504, .inl f_49)), (q 14, .inl (E.2.1 0, 7, .inl a_minCrew)), (q 15, .inl (E.2.1 0, 7, .inl a_maxForce))]) (w1 := [(h0, .inr (12, mG q i_taped (nI sz9) u_53 u_54 u_55 (nI u_56) u_57 u_58 u_59 u_60 i_worked i_deliveries i_isPlanned i_bestDone i_bestCost)), (q 0, .inl (E.2.1 3, 800, .inl a_tape))]) hP hD [4, 5] [0, 1, 2, 3] rfl rfl (by decide) (by decide) hk1 hFc hP1 hD1
          generalize H1 = H at hP hS ⊢
          have hP : va_P E.1 vwCl [(q 13, .inl (E.2.1 0, 7, .inl a_boxMany)), (q 12, .inl (E.2.1 0, 504, .inl f_49)), (q 14, .inl (E.2.1 0, 7, .inl a_minCrew)), (q 15, .inl (E.2.1 0, 7, .inl a_maxForce)), (h0, .inr (12, mG q i_taped (nI sz9) u_53 u_54 u_55 (nI u_56) u_57 u_58 u_59 u_60 i_worked i_deliveries i_isPlanned i_bestDone i_bestCost)), (q 0, .inl (E.2.1 3, 800, .inl a_tape))] H := hP
          have hD : va_D A [(q 13, .inl (E.2.1 0, 7, .inl a_boxMany)), (q 12, .inl (E.2.1 0, 504, .inl f_49)), (q 14, .inl (E.2.1 0, 7, .inl a_minCrew)), (q 15, .inl (E.2.1 0, 7, .inl a_maxForce)), (h0, .inr (12, mG q i_taped (nI sz9) u_53 u_54 u_55 (nI u_56) u_57 u_58 u_59 u_60 i_worked i_deliveries i_isPlanned i_bestDone i_bestCost)), (q 0, .inl (E.2.1 3, 800, .inl a_tape))] := hD
          refine lv_if_ne (tgt := 196) hx hb dX12_readLine_191 (by decide) (fun c_62 => ?_) (fun c_62 => ?_)
          · refine lv_aload_n hx hb dX12_readLine_196 rfl (lv_at hl 2 rfl) ?_
            refine va_get (D := E.1) (ci := 12) (v := .ref (q 12)) (C := RX12) (T := TX12) (N := 59) hx hb hts inX12 hown hK hP 4 rfl rfl 12 (by decide) fl24 (fun _ h9 => h9) rfl dX12_readLine_197 ?_
            refine lv_iload hx hb dX12_readLine_200 (lv_at hl 1 rfl) ?_
            refine lv_iload hx hb dX12_readLine_202 (lv_at hl 0 rfl) ?_
            refine lv_iadd hx hb dX12_readLine_204 ?_
            refine lv_topi (fun x_63 ex_63 => ?_)
            obtain rfl : x_63 = nI ((6 * (72 + w_13)) + 2) := ex_63.trans (nI_add (6 * (72 + w_13)) 2)
            refine lv_aload_n hx hb dX12_readLine_205 rfl (lv_at hl 2 rfl) ?_
            refine va_get (D := E.1) (ci := 12) (v := .int u_60) (C := RX12) (T := TX12) (N := 59) hx hb hts inX12 hown hK hP 4 rfl rfl 16 (by decide) fl206 (fun _ h9 => h9) rfl dX12_readLine_206 ?_
            have hi_64 : vp_in (nI ((6 * (72 + w_13)) + 2)) 504 := vp_in_nI (by omega) (by decide)
            refine va_iast hx hb hK hP hD hS 1 0 rfl rfl hi_64 dX12_readLine_209 (fun H locs hP hD hS => ?_)
            have hP : va_P E.1 vwCl [(q 13, .inl (E.2.1 0, 7, .inl a_boxMany)), (q 12, .inl (E.2.1 0, 504, .inl (upd f_49 (nI ((6 * (72 + w_13)) + 2)).toNatClampNeg u_60))), (q 14, .inl (E.2.1 0, 7, .inl a_minCrew)), (q 15, .inl (E.2.1 0, 7, .inl a_maxForce)), (h0, .inr (12, mG q i_taped (nI sz9) u_53 u_54 u_55 (nI u_56) u_57 u_58 u_59 u_60 i_worked i_deliveries i_isPlanned i_bestDone i_bestCost)), (q 0, .inl (E.2.1 3, 800, .inl a_tape))] H := hP
            have hD : va_D A [(q 13, .inl (E.2.1 0, 7, .inl a_boxMany)), (q 12, .inl (E.2.1 0, 504, .inl (upd f_49 (nI ((6 * (72 + w_13)) + 2)).toNatClampNeg u_60))), (q 14, .inl (E.2.1 0, 7, .inl a_minCrew)), (q 15, .inl (E.2.1 0, 7, .inl a_maxForce)), (h0, .inr (12, mG q i_taped (nI sz9) u_53 u_54 u_55 (nI u_56) u_57 u_58 u_59 u_60 i_worked i_deliveries i_isPlanned i_bestDone i_bestCost)), (q 0, .inl (E.2.1 3, 800, .inl a_tape))] := hD
            obtain ⟨f_65, ef_65⟩ : ∃ g : Nat → Int32, g = upd f_49 (nI ((6 * (72 + w_13)) + 2)).toNatClampNeg u_60 := ⟨_, rfl⟩
            rw [← ef_65] at hP hD
            refine lv_iinc (v := 3) (lv' := [(5, .int 3), (4, .int (nI (6 * (72 + w_13)))), (0, .ref h0), (3, .int i_what)]) hx hb dX12_readLine_210 hl (k := 0) rfl (by decide) (by decide) rfl (fun ls hl => ?_)
            refine lv_goto (tgt := 167) hx hb dX12_readLine_213 (by decide) ?_
            refine lv_iload hx hb dX12_readLine_167 (lv_at hl 0 rfl) ?_
            refine lv_iconst (v := 4) hx hb dX12_readLine_169 (by decide) ?_
            refine lv_icmp_ge (tgt := 216) hx hb dX12_readLine_170 (by decide) (fun c9 => absurd c9 (by decide)) (fun _ => ?_)
            refine lv_aload_n hx hb dX12_readLine_173 rfl (lv_at hl 2 rfl) ?_
            refine lv_iload hx hb dX12_readLine_174 (lv_at hl 0 rfl) ?_
            refine lv_iconst (v := 2) hx hb dX12_readLine_176 (by decide) ?_
            refine lv_irem hx hb dX12_readLine_177 (by decide) ?_
            refine lv_topi (fun x_66 ex_66 => ?_)
            obtain rfl : x_66 = 1 := ex_66.trans (by decide +kernel)
            refine lv_if_ne (tgt := 186) hx hb dX12_readLine_178 (by decide) (fun _ => ?_) (fun c9 => absurd c9 (by decide))
            refine lv_bipush (v := 19) hx hb dX12_readLine_186 (by decide) ?_
            have hPc := hP.sub (ws' := [(h0, .inr (12, mG q i_taped (nI sz9) u_53 u_54 u_55 (nI u_56) u_57 u_58 u_59 u_60 i_worked i_deliveries i_isPlanned i_bestDone i_bestCost)), (q 0, .inl (E.2.1 3, 800, .inl a_tape))]) [4, 5] rfl
            have hDc := hD.sub (ws' := [(h0, .inr (12, mG q i_taped (nI sz9) u_53 u_54 u_55 (nI u_56) u_57 u_58 u_59 u_60 i_worked i_deliveries i_isPlanned i_bestDone i_bestCost)), (q 0, .inl (E.2.1 3, 800, .inl a_tape))]) [4, 5] (by decide) rfl
            have hFc := va_free (wc := [(h0, .inr (12, mG q i_taped (nI sz9) u_53 u_54 u_55 (nI u_56) u_57 u_58 u_59 u_60 i_worked i_deliveries i_isPlanned i_bestDone i_bestCost)), (q 0, .inl (E.2.1 3, 800, .inl a_tape))]) hD hS hA [4, 5] rfl
            refine va_calli (va_runV (As := [.int 19]) (rest := []) ⟨hx, hb, hml, hown, hts⟩ (c_X12_number l E h0 q i_taped u_53 u_54 u_55 u_57 u_58 u_59 u_60 i_worked i_deliveries i_isPlanned i_bestDone i_bestCost sz9 u_56 a_tape 19 H.size (by omega) (by omega)) (cwV 1 hts gX12_readLine_X12_number rfl rfl rfl hdV_X12_number ⟨Nat.le_of_ble_eq_true rfl, Nat.le_of_ble_eq_true rfl⟩) ⟨pcW_blind, va_recv hK hPc (ci := 12) (q0 := 0) rfl rfl, (pcW_pre hPc hkn hDc hst hS hFc)⟩ rfl rfl hl.1 rfl (lv_room (Nat.le_of_ble_eq_true rfl)) dX12_readLine_188 ⟨Nat.le_of_ble_eq_true rfl, Nat.le_of_ble_eq_true rfl⟩) hS (fun q _ h => hFc q h) hFc (fun r_67 u t H1 locs ht hvm hw_68 hB hz1 hk1 hS => ?_)
            obtain ⟨u_69, u_70, u_71, u_72, u_73, u_74, u_75, u_76⟩ := u
            obtain ⟨hf_77, hP1, hD1⟩ := hB
            rw [ht] at hP1
            try dsimp only at hw_68
            obtain ⟨hP, hD⟩ := va_join (wr := [(q 13, .inl (E.2.1 0, 7, .inl a_boxMany)), (q 12, .inl (E.2.1 0, 504, .inl f_65)), (q 14, .inl (E.2.1 0, 7, .inl a_minCrew)), (q 15, .inl (E.2.1 0, 7, .inl a_maxForce))]) (w1 := [(h0, .inr (12, mG q i_taped (nI sz9) u_69 u_70 u_71 (nI u_72) u_73 u_74 u_75 u_76 i_worked i_deliveries i_isPlanned i_bestDone i_bestCost)), (q 0, .inl (E.2.1 3, 800, .inl a_tape))]) hP hD [4, 5] [0, 1, 2, 3] rfl rfl (by decide) (by decide) hk1 hFc hP1 hD1
            generalize H1 = H at hP hS ⊢
            have hP : va_P E.1 vwCl [(q 13, .inl (E.2.1 0, 7, .inl a_boxMany)), (q 12, .inl (E.2.1 0, 504, .inl f_65)), (q 14, .inl (E.2.1 0, 7, .inl a_minCrew)), (q 15, .inl (E.2.1 0, 7, .inl a_maxForce)), (h0, .inr (12, mG q i_taped (nI sz9) u_69 u_70 u_71 (nI u_72) u_73 u_74 u_75 u_76 i_worked i_deliveries i_isPlanned i_bestDone i_bestCost)), (q 0, .inl (E.2.1 3, 800, .inl a_tape))] H := hP
            have hD : va_D A [(q 13, .inl (E.2.1 0, 7, .inl a_boxMany)), (q 12, .inl (E.2.1 0, 504, .inl f_65)), (q 14, .inl (E.2.1 0, 7, .inl a_minCrew)), (q 15, .inl (E.2.1 0, 7, .inl a_maxForce)), (h0, .inr (12, mG q i_taped (nI sz9) u_69 u_70 u_71 (nI u_72) u_73 u_74 u_75 u_76 i_worked i_deliveries i_isPlanned i_bestDone i_bestCost)), (q 0, .inl (E.2.1 3, 800, .inl a_tape))] := hD
            refine lv_if_ne (tgt := 196) hx hb dX12_readLine_191 (by decide) (fun c_78 => ?_) (fun c_78 => ?_)
            · refine lv_aload_n hx hb dX12_readLine_196 rfl (lv_at hl 2 rfl) ?_
              refine va_get (D := E.1) (ci := 12) (v := .ref (q 12)) (C := RX12) (T := TX12) (N := 59) hx hb hts inX12 hown hK hP 4 rfl rfl 12 (by decide) fl24 (fun _ h9 => h9) rfl dX12_readLine_197 ?_
              refine lv_iload hx hb dX12_readLine_200 (lv_at hl 1 rfl) ?_
              refine lv_iload hx hb dX12_readLine_202 (lv_at hl 0 rfl) ?_
              refine lv_iadd hx hb dX12_readLine_204 ?_
              refine lv_topi (fun x_79 ex_79 => ?_)
              obtain rfl : x_79 = nI ((6 * (72 + w_13)) + 3) := ex_79.trans (nI_add (6 * (72 + w_13)) 3)
              refine lv_aload_n hx hb dX12_readLine_205 rfl (lv_at hl 2 rfl) ?_
              refine va_get (D := E.1) (ci := 12) (v := .int u_76) (C := RX12) (T := TX12) (N := 59) hx hb hts inX12 hown hK hP 4 rfl rfl 16 (by decide) fl206 (fun _ h9 => h9) rfl dX12_readLine_206 ?_
              have hi_80 : vp_in (nI ((6 * (72 + w_13)) + 3)) 504 := vp_in_nI (by omega) (by decide)
              refine va_iast hx hb hK hP hD hS 1 0 rfl rfl hi_80 dX12_readLine_209 (fun H locs hP hD hS => ?_)
              have hP : va_P E.1 vwCl [(q 13, .inl (E.2.1 0, 7, .inl a_boxMany)), (q 12, .inl (E.2.1 0, 504, .inl (upd f_65 (nI ((6 * (72 + w_13)) + 3)).toNatClampNeg u_76))), (q 14, .inl (E.2.1 0, 7, .inl a_minCrew)), (q 15, .inl (E.2.1 0, 7, .inl a_maxForce)), (h0, .inr (12, mG q i_taped (nI sz9) u_69 u_70 u_71 (nI u_72) u_73 u_74 u_75 u_76 i_worked i_deliveries i_isPlanned i_bestDone i_bestCost)), (q 0, .inl (E.2.1 3, 800, .inl a_tape))] H := hP
              have hD : va_D A [(q 13, .inl (E.2.1 0, 7, .inl a_boxMany)), (q 12, .inl (E.2.1 0, 504, .inl (upd f_65 (nI ((6 * (72 + w_13)) + 3)).toNatClampNeg u_76))), (q 14, .inl (E.2.1 0, 7, .inl a_minCrew)), (q 15, .inl (E.2.1 0, 7, .inl a_maxForce)), (h0, .inr (12, mG q i_taped (nI sz9) u_69 u_70 u_71 (nI u_72) u_73 u_74 u_75 u_76 i_worked i_deliveries i_isPlanned i_bestDone i_bestCost)), (q 0, .inl (E.2.1 3, 800, .inl a_tape))] := hD
              obtain ⟨f_81, ef_81⟩ : ∃ g : Nat → Int32, g = upd f_65 (nI ((6 * (72 + w_13)) + 3)).toNatClampNeg u_76 := ⟨_, rfl⟩
              rw [← ef_81] at hP hD
              refine lv_iinc (v := 4) (lv' := [(5, .int 4), (4, .int (nI (6 * (72 + w_13)))), (0, .ref h0), (3, .int i_what)]) hx hb dX12_readLine_210 hl (k := 0) rfl (by decide) (by decide) rfl (fun ls hl => ?_)
              refine lv_goto (tgt := 167) hx hb dX12_readLine_213 (by decide) ?_
              refine lv_iload hx hb dX12_readLine_167 (lv_at hl 0 rfl) ?_
              refine lv_iconst (v := 4) hx hb dX12_readLine_169 (by decide) ?_
              refine lv_icmp_ge (tgt := 216) hx hb dX12_readLine_170 (by decide) (fun _ => ?_) (fun c9 => absurd c9 (by decide))
              refine lv_aload_n hx hb dX12_readLine_216 rfl (lv_at hl 2 rfl) ?_
              refine lv_bipush (v := 12) hx hb dX12_readLine_217 (by decide) ?_
              refine lv_bipush (v := 12) hx hb dX12_readLine_219 (by decide) ?_
              have hPc := hP.sub (ws' := [(h0, .inr (12, mG q i_taped (nI sz9) u_69 u_70 u_71 (nI u_72) u_73 u_74 u_75 u_76 i_worked i_deliveries i_isPlanned i_bestDone i_bestCost)), (q 0, .inl (E.2.1 3, 800, .inl a_tape))]) [4, 5] rfl
              have hDc := hD.sub (ws' := [(h0, .inr (12, mG q i_taped (nI sz9) u_69 u_70 u_71 (nI u_72) u_73 u_74 u_75 u_76 i_worked i_deliveries i_isPlanned i_bestDone i_bestCost)), (q 0, .inl (E.2.1 3, 800, .inl a_tape))]) [4, 5] (by decide) rfl
              have hFc := va_free (wc := [(h0, .inr (12, mG q i_taped (nI sz9) u_69 u_70 u_71 (nI u_72) u_73 u_74 u_75 u_76 i_worked i_deliveries i_isPlanned i_bestDone i_bestCost)), (q 0, .inl (E.2.1 3, 800, .inl a_tape))]) hD hS hA [4, 5] rfl
              refine va_calli (va_runV (As := [.int 12, .int 12]) (rest := []) ⟨hx, hb, hml, hown, hts⟩ (c_X12_word l E h0 q i_taped u_69 u_70 u_71 u_73 u_74 u_75 u_76 i_worked i_deliveries i_isPlanned i_bestDone i_bestCost sz9 u_72 a_tape 12 12 H.size (by omega) (by omega)) (cwV 2 hts gX12_readLine_X12_word rfl rfl rfl hdV_X12_word ⟨Nat.le_of_ble_eq_true rfl, Nat.le_of_ble_eq_true rfl⟩) ⟨pcW_blind, va_recv hK hPc (ci := 12) (q0 := 0) rfl rfl, (pcW_pre hPc hkn hDc hst hS hFc)⟩ rfl rfl hl.1 rfl (lv_room (Nat.le_of_ble_eq_true rfl)) dX12_readLine_221 ⟨Nat.le_of_ble_eq_true rfl, Nat.le_of_ble_eq_true rfl⟩) hS (fun q _ h => hFc q h) hFc (fun r_82 u t H1 locs ht hvm hw_83 hB hz1 hk1 hS => ?_)
              obtain ⟨u_84, u_85, u_86, u_87, u_88, u_89, u_90, u_91⟩ := u
              obtain ⟨hf_92, hP1, hD1⟩ := hB
              rw [ht] at hP1
              try dsimp only at hw_83
              obtain ⟨hP, hD⟩ := va_join (wr := [(q 13, .inl (E.2.1 0, 7, .inl a_boxMany)), (q 12, .inl (E.2.1 0, 504, .inl f_81)), (q 14, .inl (E.2.1 0, 7, .inl a_minCrew)), (q 15, .inl (E.2.1 0, 7, .inl a_maxForce))]) (w1 := [(h0, .inr (12, mG q i_taped (nI sz9) u_84 u_85 u_86 (nI u_87) u_88 u_89 u_90 u_91 i_worked i_deliveries i_isPlanned i_bestDone i_bestCost)), (q 0, .inl (E.2.1 3, 800, .inl a_tape))]) hP hD [4, 5] [0, 1, 2, 3] rfl rfl (by decide) (by decide) hk1 hFc hP1 hD1
              generalize H1 = H at hP hS ⊢
              have hP : va_P E.1 vwCl [(q 13, .inl (E.2.1 0, 7, .inl a_boxMany)), (q 12, .inl (E.2.1 0, 504, .inl f_81)), (q 14, .inl (E.2.1 0, 7, .inl a_minCrew)), (q 15, .inl (E.2.1 0, 7, .inl a_maxForce)), (h0, .inr (12, mG q i_taped (nI sz9) u_84 u_85 u_86 (nI u_87) u_88 u_89 u_90 u_91 i_worked i_deliveries i_isPlanned i_bestDone i_bestCost)), (q 0, .inl (E.2.1 3, 800, .inl a_tape))] H := hP
              have hD : va_D A [(q 13, .inl (E.2.1 0, 7, .inl a_boxMany)), (q 12, .inl (E.2.1 0, 504, .inl f_81)), (q 14, .inl (E.2.1 0, 7, .inl a_minCrew)), (q 15, .inl (E.2.1 0, 7, .inl a_maxForce)), (h0, .inr (12, mG q i_taped (nI sz9) u_84 u_85 u_86 (nI u_87) u_88 u_89 u_90 u_91 i_worked i_deliveries i_isPlanned i_bestDone i_bestCost)), (q 0, .inl (E.2.1 3, 800, .inl a_tape))] := hD
              refine lv_if_eq (tgt := 237) hx hb dX12_readLine_224 (by decide) (fun c_93 => ?_) (fun c_93 => ?_)
              · refine lv_iconst (v := 0) hx hb dX12_readLine_237 (by decide) ?_
                have hP9 := hP.sub (ws' := [(h0, .inr (12, mG q i_taped (nI sz9) u_84 u_85 u_86 (nI u_87) u_88 u_89 u_90 u_91 i_worked i_deliveries i_isPlanned i_bestDone i_bestCost)), (q 0, .inl (E.2.1 3, 800, .inl a_tape)), (q 12, .inl (E.2.1 0, 504, .inl f_81)), (q 13, .inl (E.2.1 0, 7, .inl a_boxMany)), (q 14, .inl (E.2.1 0, 7, .inl a_minCrew)), (q 15, .inl (E.2.1 0, 7, .inl a_maxForce))]) [4, 5, 1, 0, 2, 3] rfl
                have hD9 := hD.sub (ws' := [(h0, .inr (12, mG q i_taped (nI sz9) u_84 u_85 u_86 (nI u_87) u_88 u_89 u_90 u_91 i_worked i_deliveries i_isPlanned i_bestDone i_bestCost)), (q 0, .inl (E.2.1 3, 800, .inl a_tape)), (q 12, .inl (E.2.1 0, 504, .inl f_81)), (q 13, .inl (E.2.1 0, 7, .inl a_boxMany)), (q 14, .inl (E.2.1 0, 7, .inl a_minCrew)), (q 15, .inl (E.2.1 0, 7, .inl a_maxForce))]) [4, 5, 1, 0, 2, 3] (by decide) rfl
                exact W.zret (v := 0) hx hb hr (by decide) (fun t ht hW => ⟨⟨0, (u_84, u_85, u_86, u_87, u_88, u_89, u_90, u_91, f_81, a_boxMany, a_minCrew, a_maxForce), rfl, ⟨Or.inl rfl, Or.inl rfl⟩, hI_boxMany, (by omega), by rw [ht]; exact hP9, hD9⟩, hS.F ht⟩) hS.2.2 dX12_readLine_238
              · refine lv_aload_n hx hb dX12_readLine_227 rfl (lv_at hl 2 rfl) ?_
                refine lv_sipush (v := 359) hx hb dX12_readLine_228 (by decide) ?_
                have hPc := hP.sub (ws' := [(h0, .inr (12, mG q i_taped (nI sz9) u_84 u_85 u_86 (nI u_87) u_88 u_89 u_90 u_91 i_worked i_deliveries i_isPlanned i_bestDone i_bestCost)), (q 0, .inl (E.2.1 3, 800, .inl a_tape))]) [4, 5] rfl
                have hDc := hD.sub (ws' := [(h0, .inr (12, mG q i_taped (nI sz9) u_84 u_85 u_86 (nI u_87) u_88 u_89 u_90 u_91 i_worked i_deliveries i_isPlanned i_bestDone i_bestCost)), (q 0, .inl (E.2.1 3, 800, .inl a_tape))]) [4, 5] (by decide) rfl
                have hFc := va_free (wc := [(h0, .inr (12, mG q i_taped (nI sz9) u_84 u_85 u_86 (nI u_87) u_88 u_89 u_90 u_91 i_worked i_deliveries i_isPlanned i_bestDone i_bestCost)), (q 0, .inl (E.2.1 3, 800, .inl a_tape))]) hD hS hA [4, 5] rfl
                refine va_calli (va_runV (As := [.int 359]) (rest := []) ⟨hx, hb, hml, hown, hts⟩ (c_X12_number l E h0 q i_taped u_84 u_85 u_86 u_88 u_89 u_90 u_91 i_worked i_deliveries i_isPlanned i_bestDone i_bestCost sz9 u_87 a_tape 359 H.size (by omega) (by omega)) (cwV 1 hts gX12_readLine_X12_number rfl rfl rfl hdV_X12_number ⟨Nat.le_of_ble_eq_true rfl, Nat.le_of_ble_eq_true rfl⟩) ⟨pcW_blind, va_recv hK hPc (ci := 12) (q0 := 0) rfl rfl, (pcW_pre hPc hkn hDc hst hS hFc)⟩ rfl rfl hl.1 rfl (lv_room (Nat.le_of_ble_eq_true rfl)) dX12_readLine_231 ⟨Nat.le_of_ble_eq_true rfl, Nat.le_of_ble_eq_true rfl⟩) hS (fun q _ h => hFc q h) hFc (fun r_94 u t H1 locs ht hvm hw_95 hB hz1 hk1 hS => ?_)
                obtain ⟨u_96, u_97, u_98, u_99, u_100, u_101, u_102, u_103⟩ := u
                obtain ⟨hf_104, hP1, hD1⟩ := hB
                rw [ht] at hP1
                try dsimp only at hw_95
                obtain ⟨hP, hD⟩ := va_join (wr := [(q 13, .inl (E.2.1 0, 7, .inl a_boxMany)), (q 12, .inl (E.2.1 0, 504, .inl f_81)), (q 14, .inl (E.2.1 0, 7, .inl a_minCrew)), (q 15, .inl (E.2.1 0, 7, .inl a_maxForce))]) (w1 := [(h0, .inr (12, mG q i_taped (nI sz9) u_96 u_97 u_98 (nI u_99) u_100 u_101 u_102 u_103 i_worked i_deliveries i_isPlanned i_bestDone i_bestCost)), (q 0, .inl (E.2.1 3, 800, .inl a_tape))]) hP hD [4, 5] [0, 1, 2, 3] rfl rfl (by decide) (by decide) hk1 hFc hP1 hD1
                generalize H1 = H at hP hS ⊢
                have hP : va_P E.1 vwCl [(q 13, .inl (E.2.1 0, 7, .inl a_boxMany)), (q 12, .inl (E.2.1 0, 504, .inl f_81)), (q 14, .inl (E.2.1 0, 7, .inl a_minCrew)), (q 15, .inl (E.2.1 0, 7, .inl a_maxForce)), (h0, .inr (12, mG q i_taped (nI sz9) u_96 u_97 u_98 (nI u_99) u_100 u_101 u_102 u_103 i_worked i_deliveries i_isPlanned i_bestDone i_bestCost)), (q 0, .inl (E.2.1 3, 800, .inl a_tape))] H := hP
                have hD : va_D A [(q 13, .inl (E.2.1 0, 7, .inl a_boxMany)), (q 12, .inl (E.2.1 0, 504, .inl f_81)), (q 14, .inl (E.2.1 0, 7, .inl a_minCrew)), (q 15, .inl (E.2.1 0, 7, .inl a_maxForce)), (h0, .inr (12, mG q i_taped (nI sz9) u_96 u_97 u_98 (nI u_99) u_100 u_101 u_102 u_103 i_worked i_deliveries i_isPlanned i_bestDone i_bestCost)), (q 0, .inl (E.2.1 3, 800, .inl a_tape))] := hD
                refine lv_if_ne (tgt := 239) hx hb dX12_readLine_234 (by decide) (fun c_105 => ?_) (fun c_105 => ?_)
                · refine lv_aload_n hx hb dX12_readLine_239 rfl (lv_at hl 2 rfl) ?_
                  refine va_get (D := E.1) (ci := 12) (v := .ref (q 12)) (C := RX12) (T := TX12) (N := 59) hx hb hts inX12 hown hK hP 4 rfl rfl 12 (by decide) fl24 (fun _ h9 => h9) rfl dX12_readLine_240 ?_
                  refine lv_iload hx hb dX12_readLine_243 (lv_at hl 1 rfl) ?_
                  refine lv_iconst (v := 4) hx hb dX12_readLine_245 (by decide) ?_
                  refine lv_iadd hx hb dX12_readLine_246 ?_
                  refine lv_topi (fun x_106 ex_106 => ?_)
                  obtain rfl : x_106 = nI ((6 * (72 + w_13)) + 4) := ex_106.trans (nI_add (6 * (72 + w_13)) 4)
                  refine lv_aload_n hx hb dX12_readLine_247 rfl (lv_at hl 2 rfl) ?_
                  refine va_get (D := E.1) (ci := 12) (v := .int u_103) (C := RX12) (T := TX12) (N := 59) hx hb hts inX12 hown hK hP 4 rfl rfl 16 (by decide) fl206 (fun _ h9 => h9) rfl dX12_readLine_248 ?_
                  have hi_107 : vp_in (nI ((6 * (72 + w_13)) + 4)) 504 := vp_in_nI (by omega) (by decide)
                  refine va_iast hx hb hK hP hD hS 1 0 rfl rfl hi_107 dX12_readLine_251 (fun H locs hP hD hS => ?_)
                  have hP : va_P E.1 vwCl [(q 13, .inl (E.2.1 0, 7, .inl a_boxMany)), (q 12, .inl (E.2.1 0, 504, .inl (upd f_81 (nI ((6 * (72 + w_13)) + 4)).toNatClampNeg u_103))), (q 14, .inl (E.2.1 0, 7, .inl a_minCrew)), (q 15, .inl (E.2.1 0, 7, .inl a_maxForce)), (h0, .inr (12, mG q i_taped (nI sz9) u_96 u_97 u_98 (nI u_99) u_100 u_101 u_102 u_103 i_worked i_deliveries i_isPlanned i_bestDone i_bestCost)), (q 0, .inl (E.2.1 3, 800, .inl a_tape))] H := hP
                  have hD : va_D A [(q 13, .inl (E.2.1 0, 7, .inl a_boxMany)), (q 12, .inl (E.2.1 0, 504, .inl (upd f_81 (nI ((6 * (72 + w_13)) + 4)).toNatClampNeg u_103))), (q 14, .inl (E.2.1 0, 7, .inl a_minCrew)), (q 15, .inl (E.2.1 0, 7, .inl a_maxForce)), (h0, .inr (12, mG q i_taped (nI sz9) u_96 u_97 u_98 (nI u_99) u_100 u_101 u_102 u_103 i_worked i_deliveries i_isPlanned i_bestDone i_bestCost)), (q 0, .inl (E.2.1 3, 800, .inl a_tape))] := hD
                  obtain ⟨f_108, ef_108⟩ : ∃ g : Nat → Int32, g = upd f_81 (nI ((6 * (72 + w_13)) + 4)).toNatClampNeg u_103 := ⟨_, rfl⟩
                  rw [← ef_108] at hP hD
                  refine lv_aload_n hx hb dX12_readLine_252 rfl (lv_at hl 2 rfl) ?_
                  refine lv_bipush (v := 13) hx hb dX12_readLine_253 (by decide) ?_
                  refine lv_bipush (v := 13) hx hb dX12_readLine_255 (by decide) ?_
                  have hPc := hP.sub (ws' := [(h0, .inr (12, mG q i_taped (nI sz9) u_96 u_97 u_98 (nI u_99) u_100 u_101 u_102 u_103 i_worked i_deliveries i_isPlanned i_bestDone i_bestCost)), (q 0, .inl (E.2.1 3, 800, .inl a_tape))]) [4, 5] rfl
                  have hDc := hD.sub (ws' := [(h0, .inr (12, mG q i_taped (nI sz9) u_96 u_97 u_98 (nI u_99) u_100 u_101 u_102 u_103 i_worked i_deliveries i_isPlanned i_bestDone i_bestCost)), (q 0, .inl (E.2.1 3, 800, .inl a_tape))]) [4, 5] (by decide) rfl
                  have hFc := va_free (wc := [(h0, .inr (12, mG q i_taped (nI sz9) u_96 u_97 u_98 (nI u_99) u_100 u_101 u_102 u_103 i_worked i_deliveries i_isPlanned i_bestDone i_bestCost)), (q 0, .inl (E.2.1 3, 800, .inl a_tape))]) hD hS hA [4, 5] rfl
                  refine va_calli (va_runV (As := [.int 13, .int 13]) (rest := []) ⟨hx, hb, hml, hown, hts⟩ (c_X12_word l E h0 q i_taped u_96 u_97 u_98 u_100 u_101 u_102 u_103 i_worked i_deliveries i_isPlanned i_bestDone i_bestCost sz9 u_99 a_tape 13 13 H.size (by omega) (by omega)) (cwV 2 hts gX12_readLine_X12_word rfl rfl rfl hdV_X12_word ⟨Nat.le_of_ble_eq_true rfl, Nat.le_of_ble_eq_true rfl⟩) ⟨pcW_blind, va_recv hK hPc (ci := 12) (q0 := 0) rfl rfl, (pcW_pre hPc hkn hDc hst hS hFc)⟩ rfl rfl hl.1 rfl (lv_room (Nat.le_of_ble_eq_true rfl)) dX12_readLine_257 ⟨Nat.le_of_ble_eq_true rfl, Nat.le_of_ble_eq_true rfl⟩) hS (fun q _ h => hFc q h) hFc (fun r_109 u t H1 locs ht hvm hw_110 hB hz1 hk1 hS => ?_)
                  obtain ⟨u_111, u_112, u_113, u_114, u_115, u_116, u_117, u_118⟩ := u
                  obtain ⟨hf_119, hP1, hD1⟩ := hB
                  rw [ht] at hP1
                  try dsimp only at hw_110
                  obtain ⟨hP, hD⟩ := va_join (wr := [(q 13, .inl (E.2.1 0, 7, .inl a_boxMany)), (q 12, .inl (E.2.1 0, 504, .inl f_108)), (q 14, .inl (E.2.1 0, 7, .inl a_minCrew)), (q 15, .inl (E.2.1 0, 7, .inl a_maxForce))]) (w1 := [(h0, .inr (12, mG q i_taped (nI sz9) u_111 u_112 u_113 (nI u_114) u_115 u_116 u_117 u_118 i_worked i_deliveries i_isPlanned i_bestDone i_bestCost)), (q 0, .inl (E.2.1 3, 800, .inl a_tape))]) hP hD [4, 5] [0, 1, 2, 3] rfl rfl (by decide) (by decide) hk1 hFc hP1 hD1
                  generalize H1 = H at hP hS ⊢
                  have hP : va_P E.1 vwCl [(q 13, .inl (E.2.1 0, 7, .inl a_boxMany)), (q 12, .inl (E.2.1 0, 504, .inl f_108)), (q 14, .inl (E.2.1 0, 7, .inl a_minCrew)), (q 15, .inl (E.2.1 0, 7, .inl a_maxForce)), (h0, .inr (12, mG q i_taped (nI sz9) u_111 u_112 u_113 (nI u_114) u_115 u_116 u_117 u_118 i_worked i_deliveries i_isPlanned i_bestDone i_bestCost)), (q 0, .inl (E.2.1 3, 800, .inl a_tape))] H := hP
                  have hD : va_D A [(q 13, .inl (E.2.1 0, 7, .inl a_boxMany)), (q 12, .inl (E.2.1 0, 504, .inl f_108)), (q 14, .inl (E.2.1 0, 7, .inl a_minCrew)), (q 15, .inl (E.2.1 0, 7, .inl a_maxForce)), (h0, .inr (12, mG q i_taped (nI sz9) u_111 u_112 u_113 (nI u_114) u_115 u_116 u_117 u_118 i_worked i_deliveries i_isPlanned i_bestDone i_bestCost)), (q 0, .inl (E.2.1 3, 800, .inl a_tape))] := hD
                  refine lv_if_eq (tgt := 273) hx hb dX12_readLine_260 (by decide) (fun c_120 => ?_) (fun c_120 => ?_)
                  · refine lv_iconst (v := 0) hx hb dX12_readLine_273 (by decide) ?_
                    have hP9 := hP.sub (ws' := [(h0, .inr (12, mG q i_taped (nI sz9) u_111 u_112 u_113 (nI u_114) u_115 u_116 u_117 u_118 i_worked i_deliveries i_isPlanned i_bestDone i_bestCost)), (q 0, .inl (E.2.1 3, 800, .inl a_tape)), (q 12, .inl (E.2.1 0, 504, .inl f_108)), (q 13, .inl (E.2.1 0, 7, .inl a_boxMany)), (q 14, .inl (E.2.1 0, 7, .inl a_minCrew)), (q 15, .inl (E.2.1 0, 7, .inl a_maxForce))]) [4, 5, 1, 0, 2, 3] rfl
                    have hD9 := hD.sub (ws' := [(h0, .inr (12, mG q i_taped (nI sz9) u_111 u_112 u_113 (nI u_114) u_115 u_116 u_117 u_118 i_worked i_deliveries i_isPlanned i_bestDone i_bestCost)), (q 0, .inl (E.2.1 3, 800, .inl a_tape)), (q 12, .inl (E.2.1 0, 504, .inl f_108)), (q 13, .inl (E.2.1 0, 7, .inl a_boxMany)), (q 14, .inl (E.2.1 0, 7, .inl a_minCrew)), (q 15, .inl (E.2.1 0, 7, .inl a_maxForce))]) [4, 5, 1, 0, 2, 3] (by decide) rfl
                    exact W.zret (v := 0) hx hb hr (by decide) (fun t ht hW => ⟨⟨0, (u_111, u_112, u_113, u_114, u_115, u_116, u_117, u_118, f_108, a_boxMany, a_minCrew, a_maxForce), rfl, ⟨Or.inl rfl, Or.inl rfl⟩, hI_boxMany, (by omega), by rw [ht]; exact hP9, hD9⟩, hS.F ht⟩) hS.2.2 dX12_readLine_274
                  · refine lv_aload_n hx hb dX12_readLine_263 rfl (lv_at hl 2 rfl) ?_
                    refine lv_sipush (v := 359) hx hb dX12_readLine_264 (by decide) ?_
                    have hPc := hP.sub (ws' := [(h0, .inr (12, mG q i_taped (nI sz9) u_111 u_112 u_113 (nI u_114) u_115 u_116 u_117 u_118 i_worked i_deliveries i_isPlanned i_bestDone i_bestCost)), (q 0, .inl (E.2.1 3, 800, .inl a_tape))]) [4, 5] rfl
                    have hDc := hD.sub (ws' := [(h0, .inr (12, mG q i_taped (nI sz9) u_111 u_112 u_113 (nI u_114) u_115 u_116 u_117 u_118 i_worked i_deliveries i_isPlanned i_bestDone i_bestCost)), (q 0, .inl (E.2.1 3, 800, .inl a_tape))]) [4, 5] (by decide) rfl
                    have hFc := va_free (wc := [(h0, .inr (12, mG q i_taped (nI sz9) u_111 u_112 u_113 (nI u_114) u_115 u_116 u_117 u_118 i_worked i_deliveries i_isPlanned i_bestDone i_bestCost)), (q 0, .inl (E.2.1 3, 800, .inl a_tape))]) hD hS hA [4, 5] rfl
                    refine va_calli (va_runV (As := [.int 359]) (rest := []) ⟨hx, hb, hml, hown, hts⟩ (c_X12_number l E h0 q i_taped u_111 u_112 u_113 u_115 u_116 u_117 u_118 i_worked i_deliveries i_isPlanned i_bestDone i_bestCost sz9 u_114 a_tape 359 H.size (by omega) (by omega)) (cwV 1 hts gX12_readLine_X12_number rfl rfl rfl hdV_X12_number ⟨Nat.le_of_ble_eq_true rfl, Nat.le_of_ble_eq_true rfl⟩) ⟨pcW_blind, va_recv hK hPc (ci := 12) (q0 := 0) rfl rfl, (pcW_pre hPc hkn hDc hst hS hFc)⟩ rfl rfl hl.1 rfl (lv_room (Nat.le_of_ble_eq_true rfl)) dX12_readLine_267 ⟨Nat.le_of_ble_eq_true rfl, Nat.le_of_ble_eq_true rfl⟩) hS (fun q _ h => hFc q h) hFc (fun r_121 u t H1 locs ht hvm hw_122 hB hz1 hk1 hS => ?_)
                    obtain ⟨u_123, u_124, u_125, u_126, u_127, u_128, u_129, u_130⟩ := u
                    obtain ⟨hf_131, hP1, hD1⟩ := hB
                    rw [ht] at hP1
                    try dsimp only at hw_122
                    obtain ⟨hP, hD⟩ := va_join (wr := [(q 13, .inl (E.2.1 0, 7, .inl a_boxMany)), (q 12, .inl (E.2.1 0, 504, .inl f_108)), (q 14, .inl (E.2.1 0, 7, .inl a_minCrew)), (q 15, .inl (E.2.1 0, 7, .inl a_maxForce))]) (w1 := [(h0, .inr (12, mG q i_taped (nI sz9) u_123 u_124 u_125 (nI u_126) u_127 u_128 u_129 u_130 i_worked i_deliveries i_isPlanned i_bestDone i_bestCost)), (q 0, .inl (E.2.1 3, 800, .inl a_tape))]) hP hD [4, 5] [0, 1, 2, 3] rfl rfl (by decide) (by decide) hk1 hFc hP1 hD1
                    generalize H1 = H at hP hS ⊢
                    have hP : va_P E.1 vwCl [(q 13, .inl (E.2.1 0, 7, .inl a_boxMany)), (q 12, .inl (E.2.1 0, 504, .inl f_108)), (q 14, .inl (E.2.1 0, 7, .inl a_minCrew)), (q 15, .inl (E.2.1 0, 7, .inl a_maxForce)), (h0, .inr (12, mG q i_taped (nI sz9) u_123 u_124 u_125 (nI u_126) u_127 u_128 u_129 u_130 i_worked i_deliveries i_isPlanned i_bestDone i_bestCost)), (q 0, .inl (E.2.1 3, 800, .inl a_tape))] H := hP
                    have hD : va_D A [(q 13, .inl (E.2.1 0, 7, .inl a_boxMany)), (q 12, .inl (E.2.1 0, 504, .inl f_108)), (q 14, .inl (E.2.1 0, 7, .inl a_minCrew)), (q 15, .inl (E.2.1 0, 7, .inl a_maxForce)), (h0, .inr (12, mG q i_taped (nI sz9) u_123 u_124 u_125 (nI u_126) u_127 u_128 u_129 u_130 i_worked i_deliveries i_isPlanned i_bestDone i_bestCost)), (q 0, .inl (E.2.1 3, 800, .inl a_tape))] := hD
                    refine lv_if_ne (tgt := 275) hx hb dX12_readLine_270 (by decide) (fun c_132 => ?_) (fun c_132 => ?_)
                    · refine lv_aload_n hx hb dX12_readLine_275 rfl (lv_at hl 2 rfl) ?_
                      refine va_get (D := E.1) (ci := 12) (v := .ref (q 12)) (C := RX12) (T := TX12) (N := 59) hx hb hts inX12 hown hK hP 4 rfl rfl 12 (by decide) fl24 (fun _ h9 => h9) rfl dX12_readLine_276 ?_
                      refine lv_iload hx hb dX12_readLine_279 (lv_at hl 1 rfl) ?_
                      refine lv_iconst (v := 5) hx hb dX12_readLine_281 (by decide) ?_
                      refine lv_iadd hx hb dX12_readLine_282 ?_
                      refine lv_topi (fun x_133 ex_133 => ?_)
                      obtain rfl : x_133 = nI ((6 * (72 + w_13)) + 5) := ex_133.trans (nI_add (6 * (72 + w_13)) 5)
                      refine lv_aload_n hx hb dX12_readLine_283 rfl (lv_at hl 2 rfl) ?_
                      refine va_get (D := E.1) (ci := 12) (v := .int u_130) (C := RX12) (T := TX12) (N := 59) hx hb hts inX12 hown hK hP 4 rfl rfl 16 (by decide) fl206 (fun _ h9 => h9) rfl dX12_readLine_284 ?_
                      have hi_134 : vp_in (nI ((6 * (72 + w_13)) + 5)) 504 := vp_in_nI (by omega) (by decide)
                      refine va_iast hx hb hK hP hD hS 1 0 rfl rfl hi_134 dX12_readLine_287 (fun H locs hP hD hS => ?_)
                      have hP : va_P E.1 vwCl [(q 13, .inl (E.2.1 0, 7, .inl a_boxMany)), (q 12, .inl (E.2.1 0, 504, .inl (upd f_108 (nI ((6 * (72 + w_13)) + 5)).toNatClampNeg u_130))), (q 14, .inl (E.2.1 0, 7, .inl a_minCrew)), (q 15, .inl (E.2.1 0, 7, .inl a_maxForce)), (h0, .inr (12, mG q i_taped (nI sz9) u_123 u_124 u_125 (nI u_126) u_127 u_128 u_129 u_130 i_worked i_deliveries i_isPlanned i_bestDone i_bestCost)), (q 0, .inl (E.2.1 3, 800, .inl a_tape))] H := hP
                      have hD : va_D A [(q 13, .inl (E.2.1 0, 7, .inl a_boxMany)), (q 12, .inl (E.2.1 0, 504, .inl (upd f_108 (nI ((6 * (72 + w_13)) + 5)).toNatClampNeg u_130))), (q 14, .inl (E.2.1 0, 7, .inl a_minCrew)), (q 15, .inl (E.2.1 0, 7, .inl a_maxForce)), (h0, .inr (12, mG q i_taped (nI sz9) u_123 u_124 u_125 (nI u_126) u_127 u_128 u_129 u_130 i_worked i_deliveries i_isPlanned i_bestDone i_bestCost)), (q 0, .inl (E.2.1 3, 800, .inl a_tape))] := hD
                      obtain ⟨f_135, ef_135⟩ : ∃ g : Nat → Int32, g = upd f_108 (nI ((6 * (72 + w_13)) + 5)).toNatClampNeg u_130 := ⟨_, rfl⟩
                      rw [← ef_135] at hP hD
                      refine lv_aload_n hx hb dX12_readLine_288 rfl (lv_at hl 2 rfl) ?_
                      refine va_get (D := E.1) (ci := 12) (v := .ref (q 13)) (C := RX12) (T := TX12) (N := 59) hx hb hts inX12 hown hK hP 4 rfl rfl 13 (by decide) fl27 (fun _ h9 => h9) rfl dX12_readLine_289 ?_
                      refine lv_bipush (v := 6) hx hb dX12_readLine_292 (by decide) ?_
                      refine lv_dup2_11 hx hb dX12_readLine_294 rfl rfl ?_
                      refine va_iald hx hb hK hP 0 0 rfl rfl (show vp_in 6 7 from by unfold vp_in; decide) dX12_readLine_295 ?_
                      refine lv_topi (fun x_136 ex_136 => ?_)
                      obtain rfl : x_136 = nI w_13 := ex_136.trans ex_11.symm
                      refine lv_iconst (v := 1) hx hb dX12_readLine_296 (by decide) ?_
                      refine lv_iadd hx hb dX12_readLine_297 ?_
                      refine lv_topi (fun x_137 ex_137 => ?_)
                      obtain rfl : x_137 = nI (w_13 + 1) := ex_137.trans (nI_1 _)
                      refine va_iast hx hb hK hP hD hS 0 0 rfl rfl (show vp_in 6 7 from by unfold vp_in; decide) dX12_readLine_298 (fun H locs hP hD hS => ?_)
                      have hP : va_P E.1 vwCl [(q 13, .inl (E.2.1 0, 7, .inl (upd a_boxMany (Int32.toNatClampNeg 6) (nI (w_13 + 1))))), (q 12, .inl (E.2.1 0, 504, .inl f_135)), (q 14, .inl (E.2.1 0, 7, .inl a_minCrew)), (q 15, .inl (E.2.1 0, 7, .inl a_maxForce)), (h0, .inr (12, mG q i_taped (nI sz9) u_123 u_124 u_125 (nI u_126) u_127 u_128 u_129 u_130 i_worked i_deliveries i_isPlanned i_bestDone i_bestCost)), (q 0, .inl (E.2.1 3, 800, .inl a_tape))] H := hP
                      have hD : va_D A [(q 13, .inl (E.2.1 0, 7, .inl (upd a_boxMany (Int32.toNatClampNeg 6) (nI (w_13 + 1))))), (q 12, .inl (E.2.1 0, 504, .inl f_135)), (q 14, .inl (E.2.1 0, 7, .inl a_minCrew)), (q 15, .inl (E.2.1 0, 7, .inl a_maxForce)), (h0, .inr (12, mG q i_taped (nI sz9) u_123 u_124 u_125 (nI u_126) u_127 u_128 u_129 u_130 i_worked i_deliveries i_isPlanned i_bestDone i_bestCost)), (q 0, .inl (E.2.1 3, 800, .inl a_tape))] := hD
                      obtain ⟨f_138, ef_138⟩ : ∃ g : Nat → Int32, g = upd a_boxMany (Int32.toNatClampNeg 6) (nI (w_13 + 1)) := ⟨_, rfl⟩
                      rw [← ef_138] at hP hD
                      have hI_139 : ∀ k : Nat, k < 7 → inR (f_138 k) 0 12 = true := by rw [ef_138]; exact all_upd (P := fun z => inR z 0 12 = true) hI_boxMany (inR_mk (n := 12) (by decide) (by omega))
                      refine lv_aload_n hx hb dX12_readLine_299 rfl (lv_at hl 2 rfl) ?_
                      refine va_get (D := E.1) (ci := 12) (v := .int u_123) (C := RX12) (T := TX12) (N := 59) hx hb hts inX12 hown hK hP 4 rfl rfl 3 (by decide) fl180 (fun _ h9 => h9) rfl dX12_readLine_300 ?_
                      refine lv_iconst (v := 3) hx hb dX12_readLine_303 (by decide) ?_
                      refine lv_icmp_eq (tgt := 313) hx hb dX12_readLine_304 (by decide) (fun c_140 => ?_) (fun c_140 => ?_)
                      · refine lv_aload_n hx hb dX12_readLine_313 rfl (lv_at hl 2 rfl) ?_
                        have hPc := hP.sub (ws' := [(h0, .inr (12, mG q i_taped (nI sz9) u_123 u_124 u_125 (nI u_126) u_127 u_128 u_129 u_130 i_worked i_deliveries i_isPlanned i_bestDone i_bestCost)), (q 0, .inl (E.2.1 3, 800, .inl a_tape))]) [4, 5] rfl
                        have hDc := hD.sub (ws' := [(h0, .inr (12, mG q i_taped (nI sz9) u_123 u_124 u_125 (nI u_126) u_127 u_128 u_129 u_130 i_worked i_deliveries i_isPlanned i_bestDone i_bestCost)), (q 0, .inl (E.2.1 3, 800, .inl a_tape))]) [4, 5] (by decide) rfl
                        have hFc := va_free (wc := [(h0, .inr (12, mG q i_taped (nI sz9) u_123 u_124 u_125 (nI u_126) u_127 u_128 u_129 u_130 i_worked i_deliveries i_isPlanned i_bestDone i_bestCost)), (q 0, .inl (E.2.1 3, 800, .inl a_tape))]) hD hS hA [4, 5] rfl
                        refine va_callv (va_runV (As := []) (rest := []) ⟨hx, hb, hml, hown, hts⟩ (c_X12_scan l E h0 q i_taped u_123 u_124 u_125 u_127 u_128 u_129 u_130 i_worked i_deliveries i_isPlanned i_bestDone i_bestCost sz9 u_126 a_tape H.size (by omega) (by omega)) (cwV 0 hts gX12_readLine_X12_scan rfl rfl rfl hdV_X12_scan ⟨Nat.le_of_ble_eq_true rfl, Nat.le_of_ble_eq_true rfl⟩) ⟨pcW_blind, va_recv hK hPc (ci := 12) (q0 := 0) rfl rfl, (pcW_pre hPc hkn hDc hst hS hFc)⟩ rfl rfl hl.1 rfl (lv_room (Nat.le_of_ble_eq_true rfl)) dX12_readLine_314 ⟨Nat.le_of_ble_eq_true rfl, Nat.le_of_ble_eq_true rfl⟩) hS (fun q _ h => hFc q h) hFc (fun u t H1 locs ht hvm hw_142 hB hz1 hk1 hS => ?_)
                        obtain ⟨u_143, u_144, u_145, u_146, u_147⟩ := u
                        obtain ⟨hf_148, hf_149, hP1, hD1⟩ := hB
                        rw [ht] at hP1
                        try dsimp only at hw_142
                        obtain ⟨hP, hD⟩ := va_join (wr := [(q 13, .inl (E.2.1 0, 7, .inl f_138)), (q 12, .inl (E.2.1 0, 504, .inl f_135)), (q 14, .inl (E.2.1 0, 7, .inl a_minCrew)), (q 15, .inl (E.2.1 0, 7, .inl a_maxForce))]) (w1 := [(h0, .inr (12, mG q i_taped (nI sz9) u_143 u_144 u_145 (nI u_146) u_147 u_128 u_129 u_130 i_worked i_deliveries i_isPlanned i_bestDone i_bestCost)), (q 0, .inl (E.2.1 3, 800, .inl a_tape))]) hP hD [4, 5] [0, 1, 2, 3] rfl rfl (by decide) (by decide) hk1 hFc hP1 hD1
                        generalize H1 = H at hP hS ⊢
                        have hP : va_P E.1 vwCl [(q 13, .inl (E.2.1 0, 7, .inl f_138)), (q 12, .inl (E.2.1 0, 504, .inl f_135)), (q 14, .inl (E.2.1 0, 7, .inl a_minCrew)), (q 15, .inl (E.2.1 0, 7, .inl a_maxForce)), (h0, .inr (12, mG q i_taped (nI sz9) u_143 u_144 u_145 (nI u_146) u_147 u_128 u_129 u_130 i_worked i_deliveries i_isPlanned i_bestDone i_bestCost)), (q 0, .inl (E.2.1 3, 800, .inl a_tape))] H := hP
                        have hD : va_D A [(q 13, .inl (E.2.1 0, 7, .inl f_138)), (q 12, .inl (E.2.1 0, 504, .inl f_135)), (q 14, .inl (E.2.1 0, 7, .inl a_minCrew)), (q 15, .inl (E.2.1 0, 7, .inl a_maxForce)), (h0, .inr (12, mG q i_taped (nI sz9) u_143 u_144 u_145 (nI u_146) u_147 u_128 u_129 u_130 i_worked i_deliveries i_isPlanned i_bestDone i_bestCost)), (q 0, .inl (E.2.1 3, 800, .inl a_tape))] := hD
                        refine lv_iconst (v := 1) hx hb dX12_readLine_317 (by decide) ?_
                        have hP9 := hP.sub (ws' := [(h0, .inr (12, mG q i_taped (nI sz9) u_143 u_144 u_145 (nI u_146) u_147 u_128 u_129 u_130 i_worked i_deliveries i_isPlanned i_bestDone i_bestCost)), (q 0, .inl (E.2.1 3, 800, .inl a_tape)), (q 12, .inl (E.2.1 0, 504, .inl f_135)), (q 13, .inl (E.2.1 0, 7, .inl f_138)), (q 14, .inl (E.2.1 0, 7, .inl a_minCrew)), (q 15, .inl (E.2.1 0, 7, .inl a_maxForce))]) [4, 5, 1, 0, 2, 3] rfl
                        have hD9 := hD.sub (ws' := [(h0, .inr (12, mG q i_taped (nI sz9) u_143 u_144 u_145 (nI u_146) u_147 u_128 u_129 u_130 i_worked i_deliveries i_isPlanned i_bestDone i_bestCost)), (q 0, .inl (E.2.1 3, 800, .inl a_tape)), (q 12, .inl (E.2.1 0, 504, .inl f_135)), (q 13, .inl (E.2.1 0, 7, .inl f_138)), (q 14, .inl (E.2.1 0, 7, .inl a_minCrew)), (q 15, .inl (E.2.1 0, 7, .inl a_maxForce))]) [4, 5, 1, 0, 2, 3] (by decide) rfl
                        exact W.zret (v := 1) hx hb hr (by decide) (fun t ht hW => ⟨⟨1, (u_143, u_144, u_145, u_146, u_147, u_128, u_129, u_130, f_135, f_138, a_minCrew, a_maxForce), rfl, ⟨Or.inr rfl, Or.inr (Or.imp_right (fun h => by omega) hf_149)⟩, hI_139, (by omega), by rw [ht]; exact hP9, hD9⟩, hS.F ht⟩) hS.2.2 dX12_readLine_318
                      · refine lv_aload_n hx hb dX12_readLine_307 rfl (lv_at hl 2 rfl) ?_
                        refine lv_iconst (v := 1) hx hb dX12_readLine_308 (by decide) ?_
                        have hPc := hP.sub (ws' := [(h0, .inr (12, mG q i_taped (nI sz9) u_123 u_124 u_125 (nI u_126) u_127 u_128 u_129 u_130 i_worked i_deliveries i_isPlanned i_bestDone i_bestCost))]) [4] rfl
                        have hDc := hD.sub (ws' := [(h0, .inr (12, mG q i_taped (nI sz9) u_123 u_124 u_125 (nI u_126) u_127 u_128 u_129 u_130 i_worked i_deliveries i_isPlanned i_bestDone i_bestCost))]) [4] (by decide) rfl
                        have hFc := va_free (wc := [(h0, .inr (12, mG q i_taped (nI sz9) u_123 u_124 u_125 (nI u_126) u_127 u_128 u_129 u_130 i_worked i_deliveries i_isPlanned i_bestDone i_bestCost))]) hD hS hA [4] rfl
                        refine va_calli (va_runV (As := [.int 1]) (rest := []) ⟨hx, hb, hml, hown, hts⟩ (c_X12_wrong l E h0 q i_taped (nI sz9) u_123 u_124 u_125 (nI u_126) u_127 u_128 u_129 u_130 i_worked i_deliveries i_isPlanned i_bestDone i_bestCost 1 H.size ) (cwV 1 hts gX12_readLine_X12_wrong rfl rfl rfl hdV_X12_wrong ⟨Nat.le_of_ble_eq_true rfl, Nat.le_of_ble_eq_true rfl⟩) ⟨pcW_blind, va_recv hK hPc (ci := 12) (q0 := 0) rfl rfl, (pcW_pre hPc hkn hDc hst hS hFc)⟩ rfl rfl hl.1 rfl (lv_room (Nat.le_of_ble_eq_true rfl)) dX12_readLine_309 ⟨Nat.le_of_ble_eq_true rfl, Nat.le_of_ble_eq_true rfl⟩) hS (fun q _ h => hFc q h) hFc (fun r_150 u t H1 locs ht hvm hw_151 hB hz1 hk1 hS => ?_)
                        obtain ⟨hP1, hD1⟩ := hB
                        rw [ht] at hP1
                        try dsimp only at hw_151
                        obtain ⟨hP, hD⟩ := va_join (wr := [(q 13, .inl (E.2.1 0, 7, .inl f_138)), (q 12, .inl (E.2.1 0, 504, .inl f_135)), (q 14, .inl (E.2.1 0, 7, .inl a_minCrew)), (q 15, .inl (E.2.1 0, 7, .inl a_maxForce)), (q 0, .inl (E.2.1 3, 800, .inl a_tape))]) (w1 := [(h0, .inr (12, mG q i_taped (nI sz9) u_123 u_124 u_125 (nI u_126) u_127 1 u_125 u_130 i_worked i_deliveries i_isPlanned i_bestDone i_bestCost))]) hP hD [4] [0, 1, 2, 3, 5] rfl rfl (by decide) (by decide) hk1 hFc hP1 hD1
                        generalize H1 = H at hP hS ⊢
                        have hP : va_P E.1 vwCl [(q 13, .inl (E.2.1 0, 7, .inl f_138)), (q 12, .inl (E.2.1 0, 504, .inl f_135)), (q 14, .inl (E.2.1 0, 7, .inl a_minCrew)), (q 15, .inl (E.2.1 0, 7, .inl a_maxForce)), (q 0, .inl (E.2.1 3, 800, .inl a_tape)), (h0, .inr (12, mG q i_taped (nI sz9) u_123 u_124 u_125 (nI u_126) u_127 1 u_125 u_130 i_worked i_deliveries i_isPlanned i_bestDone i_bestCost))] H := hP
                        have hD : va_D A [(q 13, .inl (E.2.1 0, 7, .inl f_138)), (q 12, .inl (E.2.1 0, 504, .inl f_135)), (q 14, .inl (E.2.1 0, 7, .inl a_minCrew)), (q 15, .inl (E.2.1 0, 7, .inl a_maxForce)), (q 0, .inl (E.2.1 3, 800, .inl a_tape)), (h0, .inr (12, mG q i_taped (nI sz9) u_123 u_124 u_125 (nI u_126) u_127 1 u_125 u_130 i_worked i_deliveries i_isPlanned i_bestDone i_bestCost))] := hD
                        obtain rfl : r_150 = 0 := hw_151
                        have hP9 := hP.sub (ws' := [(h0, .inr (12, mG q i_taped (nI sz9) u_123 u_124 u_125 (nI u_126) u_127 1 u_125 u_130 i_worked i_deliveries i_isPlanned i_bestDone i_bestCost)), (q 0, .inl (E.2.1 3, 800, .inl a_tape)), (q 12, .inl (E.2.1 0, 504, .inl f_135)), (q 13, .inl (E.2.1 0, 7, .inl f_138)), (q 14, .inl (E.2.1 0, 7, .inl a_minCrew)), (q 15, .inl (E.2.1 0, 7, .inl a_maxForce))]) [5, 4, 1, 0, 2, 3] rfl
                        have hD9 := hD.sub (ws' := [(h0, .inr (12, mG q i_taped (nI sz9) u_123 u_124 u_125 (nI u_126) u_127 1 u_125 u_130 i_worked i_deliveries i_isPlanned i_bestDone i_bestCost)), (q 0, .inl (E.2.1 3, 800, .inl a_tape)), (q 12, .inl (E.2.1 0, 504, .inl f_135)), (q 13, .inl (E.2.1 0, 7, .inl f_138)), (q 14, .inl (E.2.1 0, 7, .inl a_minCrew)), (q 15, .inl (E.2.1 0, 7, .inl a_maxForce))]) [5, 4, 1, 0, 2, 3] (by decide) rfl
                        exact W.zret (v := 0) hx hb hr (by decide) (fun t ht hW => ⟨⟨0, (u_123, u_124, u_125, u_126, u_127, 1, u_125, u_130, f_135, f_138, a_minCrew, a_maxForce), rfl, ⟨Or.inl rfl, Or.inl rfl⟩, hI_139, (by omega), by rw [ht]; exact hP9, hD9⟩, hS.F ht⟩) hS.2.2 dX12_readLine_312
                    · refine lv_iconst (v := 0) hx hb dX12_readLine_273 (by decide) ?_
                      have hP9 := hP.sub (ws' := [(h0, .inr (12, mG q i_taped (nI sz9) u_123 u_124 u_125 (nI u_126) u_127 u_128 u_129 u_130 i_worked i_deliveries i_isPlanned i_bestDone i_bestCost)), (q 0, .inl (E.2.1 3, 800, .inl a_tape)), (q 12, .inl (E.2.1 0, 504, .inl f_108)), (q 13, .inl (E.2.1 0, 7, .inl a_boxMany)), (q 14, .inl (E.2.1 0, 7, .inl a_minCrew)), (q 15, .inl (E.2.1 0, 7, .inl a_maxForce))]) [4, 5, 1, 0, 2, 3] rfl
                      have hD9 := hD.sub (ws' := [(h0, .inr (12, mG q i_taped (nI sz9) u_123 u_124 u_125 (nI u_126) u_127 u_128 u_129 u_130 i_worked i_deliveries i_isPlanned i_bestDone i_bestCost)), (q 0, .inl (E.2.1 3, 800, .inl a_tape)), (q 12, .inl (E.2.1 0, 504, .inl f_108)), (q 13, .inl (E.2.1 0, 7, .inl a_boxMany)), (q 14, .inl (E.2.1 0, 7, .inl a_minCrew)), (q 15, .inl (E.2.1 0, 7, .inl a_maxForce))]) [4, 5, 1, 0, 2, 3] (by decide) rfl
                      exact W.zret (v := 0) hx hb hr (by decide) (fun t ht hW => ⟨⟨0, (u_123, u_124, u_125, u_126, u_127, u_128, u_129, u_130, f_108, a_boxMany, a_minCrew, a_maxForce), rfl, ⟨Or.inl rfl, Or.inl rfl⟩, hI_boxMany, (by omega), by rw [ht]; exact hP9, hD9⟩, hS.F ht⟩) hS.2.2 dX12_readLine_274
                · refine lv_iconst (v := 0) hx hb dX12_readLine_237 (by decide) ?_
                  have hP9 := hP.sub (ws' := [(h0, .inr (12, mG q i_taped (nI sz9) u_96 u_97 u_98 (nI u_99) u_100 u_101 u_102 u_103 i_worked i_deliveries i_isPlanned i_bestDone i_bestCost)), (q 0, .inl (E.2.1 3, 800, .inl a_tape)), (q 12, .inl (E.2.1 0, 504, .inl f_81)), (q 13, .inl (E.2.1 0, 7, .inl a_boxMany)), (q 14, .inl (E.2.1 0, 7, .inl a_minCrew)), (q 15, .inl (E.2.1 0, 7, .inl a_maxForce))]) [4, 5, 1, 0, 2, 3] rfl
                  have hD9 := hD.sub (ws' := [(h0, .inr (12, mG q i_taped (nI sz9) u_96 u_97 u_98 (nI u_99) u_100 u_101 u_102 u_103 i_worked i_deliveries i_isPlanned i_bestDone i_bestCost)), (q 0, .inl (E.2.1 3, 800, .inl a_tape)), (q 12, .inl (E.2.1 0, 504, .inl f_81)), (q 13, .inl (E.2.1 0, 7, .inl a_boxMany)), (q 14, .inl (E.2.1 0, 7, .inl a_minCrew)), (q 15, .inl (E.2.1 0, 7, .inl a_maxForce))]) [4, 5, 1, 0, 2, 3] (by decide) rfl
                  exact W.zret (v := 0) hx hb hr (by decide) (fun t ht hW => ⟨⟨0, (u_96, u_97, u_98, u_99, u_100, u_101, u_102, u_103, f_81, a_boxMany, a_minCrew, a_maxForce), rfl, ⟨Or.inl rfl, Or.inl rfl⟩, hI_boxMany, (by omega), by rw [ht]; exact hP9, hD9⟩, hS.F ht⟩) hS.2.2 dX12_readLine_238
            · refine lv_iconst (v := 0) hx hb dX12_readLine_194 (by decide) ?_
              have hP9 := hP.sub (ws' := [(h0, .inr (12, mG q i_taped (nI sz9) u_69 u_70 u_71 (nI u_72) u_73 u_74 u_75 u_76 i_worked i_deliveries i_isPlanned i_bestDone i_bestCost)), (q 0, .inl (E.2.1 3, 800, .inl a_tape)), (q 12, .inl (E.2.1 0, 504, .inl f_65)), (q 13, .inl (E.2.1 0, 7, .inl a_boxMany)), (q 14, .inl (E.2.1 0, 7, .inl a_minCrew)), (q 15, .inl (E.2.1 0, 7, .inl a_maxForce))]) [4, 5, 1, 0, 2, 3] rfl
              have hD9 := hD.sub (ws' := [(h0, .inr (12, mG q i_taped (nI sz9) u_69 u_70 u_71 (nI u_72) u_73 u_74 u_75 u_76 i_worked i_deliveries i_isPlanned i_bestDone i_bestCost)), (q 0, .inl (E.2.1 3, 800, .inl a_tape)), (q 12, .inl (E.2.1 0, 504, .inl f_65)), (q 13, .inl (E.2.1 0, 7, .inl a_boxMany)), (q 14, .inl (E.2.1 0, 7, .inl a_minCrew)), (q 15, .inl (E.2.1 0, 7, .inl a_maxForce))]) [4, 5, 1, 0, 2, 3] (by decide) rfl
              exact W.zret (v := 0) hx hb hr (by decide) (fun t ht hW => ⟨⟨0, (u_69, u_70, u_71, u_72, u_73, u_74, u_75, u_76, f_65, a_boxMany, a_minCrew, a_maxForce), rfl, ⟨Or.inl rfl, Or.inl rfl⟩, hI_boxMany, (by omega), by rw [ht]; exact hP9, hD9⟩, hS.F ht⟩) hS.2.2 dX12_readLine_195
          · refine lv_iconst (v := 0) hx hb dX12_readLine_194 (by decide) ?_
            have hP9 := hP.sub (ws' := [(h0, .inr (12, mG q i_taped (nI sz9) u_53 u_54 u_55 (nI u_56) u_57 u_58 u_59 u_60 i_worked i_deliveries i_isPlanned i_bestDone i_bestCost)), (q 0, .inl (E.2.1 3, 800, .inl a_tape)), (q 12, .inl (E.2.1 0, 504, .inl f_49)), (q 13, .inl (E.2.1 0, 7, .inl a_boxMany)), (q 14, .inl (E.2.1 0, 7, .inl a_minCrew)), (q 15, .inl (E.2.1 0, 7, .inl a_maxForce))]) [4, 5, 1, 0, 2, 3] rfl
            have hD9 := hD.sub (ws' := [(h0, .inr (12, mG q i_taped (nI sz9) u_53 u_54 u_55 (nI u_56) u_57 u_58 u_59 u_60 i_worked i_deliveries i_isPlanned i_bestDone i_bestCost)), (q 0, .inl (E.2.1 3, 800, .inl a_tape)), (q 12, .inl (E.2.1 0, 504, .inl f_49)), (q 13, .inl (E.2.1 0, 7, .inl a_boxMany)), (q 14, .inl (E.2.1 0, 7, .inl a_minCrew)), (q 15, .inl (E.2.1 0, 7, .inl a_maxForce))]) [4, 5, 1, 0, 2, 3] (by decide) rfl
            exact W.zret (v := 0) hx hb hr (by decide) (fun t ht hW => ⟨⟨0, (u_53, u_54, u_55, u_56, u_57, u_58, u_59, u_60, f_49, a_boxMany, a_minCrew, a_maxForce), rfl, ⟨Or.inl rfl, Or.inl rfl⟩, hI_boxMany, (by omega), by rw [ht]; exact hP9, hD9⟩, hS.F ht⟩) hS.2.2 dX12_readLine_195
        · refine lv_iconst (v := 0) hx hb dX12_readLine_194 (by decide) ?_
          have hP9 := hP.sub (ws' := [(h0, .inr (12, mG q i_taped (nI sz9) u_37 u_38 u_39 (nI u_40) u_41 u_42 u_43 u_44 i_worked i_deliveries i_isPlanned i_bestDone i_bestCost)), (q 0, .inl (E.2.1 3, 800, .inl a_tape)), (q 12, .inl (E.2.1 0, 504, .inl f_33)), (q 13, .inl (E.2.1 0, 7, .inl a_boxMany)), (q 14, .inl (E.2.1 0, 7, .inl a_minCrew)), (q 15, .inl (E.2.1 0, 7, .inl a_maxForce))]) [4, 5, 1, 0, 2, 3] rfl
          have hD9 := hD.sub (ws' := [(h0, .inr (12, mG q i_taped (nI sz9) u_37 u_38 u_39 (nI u_40) u_41 u_42 u_43 u_44 i_worked i_deliveries i_isPlanned i_bestDone i_bestCost)), (q 0, .inl (E.2.1 3, 800, .inl a_tape)), (q 12, .inl (E.2.1 0, 504, .inl f_33)), (q 13, .inl (E.2.1 0, 7, .inl a_boxMany)), (q 14, .inl (E.2.1 0, 7, .inl a_minCrew)), (q 15, .inl (E.2.1 0, 7, .inl a_maxForce))]) [4, 5, 1, 0, 2, 3] (by decide) rfl
          exact W.zret (v := 0) hx hb hr (by decide) (fun t ht hW => ⟨⟨0, (u_37, u_38, u_39, u_40, u_41, u_42, u_43, u_44, f_33, a_boxMany, a_minCrew, a_maxForce), rfl, ⟨Or.inl rfl, Or.inl rfl⟩, hI_boxMany, (by omega), by rw [ht]; exact hP9, hD9⟩, hS.F ht⟩) hS.2.2 dX12_readLine_195
      · refine lv_iconst (v := 0) hx hb dX12_readLine_194 (by decide) ?_
        have hP9 := hP.sub (ws' := [(h0, .inr (12, mG q i_taped (nI sz9) u_21 u_22 u_23 (nI u_24) u_25 u_26 u_27 u_28 i_worked i_deliveries i_isPlanned i_bestDone i_bestCost)), (q 0, .inl (E.2.1 3, 800, .inl a_tape)), (q 12, .inl (E.2.1 0, 504, .inl a_boxes)), (q 13, .inl (E.2.1 0, 7, .inl a_boxMany)), (q 14, .inl (E.2.1 0, 7, .inl a_minCrew)), (q 15, .inl (E.2.1 0, 7, .inl a_maxForce))]) [4, 5, 1, 0, 2, 3] rfl
        have hD9 := hD.sub (ws' := [(h0, .inr (12, mG q i_taped (nI sz9) u_21 u_22 u_23 (nI u_24) u_25 u_26 u_27 u_28 i_worked i_deliveries i_isPlanned i_bestDone i_bestCost)), (q 0, .inl (E.2.1 3, 800, .inl a_tape)), (q 12, .inl (E.2.1 0, 504, .inl a_boxes)), (q 13, .inl (E.2.1 0, 7, .inl a_boxMany)), (q 14, .inl (E.2.1 0, 7, .inl a_minCrew)), (q 15, .inl (E.2.1 0, 7, .inl a_maxForce))]) [4, 5, 1, 0, 2, 3] (by decide) rfl
        exact W.zret (v := 0) hx hb hr (by decide) (fun t ht hW => ⟨⟨0, (u_21, u_22, u_23, u_24, u_25, u_26, u_27, u_28, a_boxes, a_boxMany, a_minCrew, a_maxForce), rfl, ⟨Or.inl rfl, Or.inl rfl⟩, hI_boxMany, (by omega), by rw [ht]; exact hP9, hD9⟩, hS.F ht⟩) hS.2.2 dX12_readLine_195
    · refine lv_aload_n hx hb dX12_readLine_104 rfl (lv_at hl 0 rfl) ?_
      refine lv_bipush (v := 9) hx hb dX12_readLine_105 (by decide) ?_
      have hPc := hP.sub (ws' := [(h0, .inr (12, mG q i_taped (nI sz9) u_3 u_4 u_5 (nI u_6) u_7 i_faultKind i_faultPlace i_got i_worked i_deliveries i_isPlanned i_bestDone i_bestCost)), (q 0, .inl (E.2.1 3, 800, .inl a_tape))]) [4, 5] rfl
      have hDc := hD.sub (ws' := [(h0, .inr (12, mG q i_taped (nI sz9) u_3 u_4 u_5 (nI u_6) u_7 i_faultKind i_faultPlace i_got i_worked i_deliveries i_isPlanned i_bestDone i_bestCost)), (q 0, .inl (E.2.1 3, 800, .inl a_tape))]) [4, 5] (by decide) rfl
      have hFc := va_free (wc := [(h0, .inr (12, mG q i_taped (nI sz9) u_3 u_4 u_5 (nI u_6) u_7 i_faultKind i_faultPlace i_got i_worked i_deliveries i_isPlanned i_bestDone i_bestCost)), (q 0, .inl (E.2.1 3, 800, .inl a_tape))]) hD hS hA [4, 5] rfl
      refine va_calli (va_runV (As := [.int 9]) (rest := []) ⟨hx, hb, hml, hown, hts⟩ (c_X12_number l E h0 q i_taped u_3 u_4 u_5 u_7 i_faultKind i_faultPlace i_got i_worked i_deliveries i_isPlanned i_bestDone i_bestCost sz9 u_6 a_tape 9 H.size (by omega) (by omega)) (cwV 1 hts gX12_readLine_X12_number rfl rfl rfl hdV_X12_number ⟨Nat.le_of_ble_eq_true rfl, Nat.le_of_ble_eq_true rfl⟩) ⟨pcW_blind, va_recv hK hPc (ci := 12) (q0 := 0) rfl rfl, (pcW_pre hPc hkn hDc hst hS hFc)⟩ rfl rfl hl.1 rfl (lv_room (Nat.le_of_ble_eq_true rfl)) dX12_readLine_107 ⟨Nat.le_of_ble_eq_true rfl, Nat.le_of_ble_eq_true rfl⟩) hS (fun q _ h => hFc q h) hFc (fun r_152 u t H1 locs ht hvm hw_153 hB hz1 hk1 hS => ?_)
      obtain ⟨u_154, u_155, u_156, u_157, u_158, u_159, u_160, u_161⟩ := u
      obtain ⟨hf_162, hP1, hD1⟩ := hB
      rw [ht] at hP1
      try dsimp only at hw_153
      obtain ⟨hP, hD⟩ := va_join (wr := [(q 13, .inl (E.2.1 0, 7, .inl a_boxMany)), (q 12, .inl (E.2.1 0, 504, .inl a_boxes)), (q 14, .inl (E.2.1 0, 7, .inl a_minCrew)), (q 15, .inl (E.2.1 0, 7, .inl a_maxForce))]) (w1 := [(h0, .inr (12, mG q i_taped (nI sz9) u_154 u_155 u_156 (nI u_157) u_158 u_159 u_160 u_161 i_worked i_deliveries i_isPlanned i_bestDone i_bestCost)), (q 0, .inl (E.2.1 3, 800, .inl a_tape))]) hP hD [4, 5] [0, 1, 2, 3] rfl rfl (by decide) (by decide) hk1 hFc hP1 hD1
      generalize H1 = H at hP hS ⊢
      have hP : va_P E.1 vwCl [(q 13, .inl (E.2.1 0, 7, .inl a_boxMany)), (q 12, .inl (E.2.1 0, 504, .inl a_boxes)), (q 14, .inl (E.2.1 0, 7, .inl a_minCrew)), (q 15, .inl (E.2.1 0, 7, .inl a_maxForce)), (h0, .inr (12, mG q i_taped (nI sz9) u_154 u_155 u_156 (nI u_157) u_158 u_159 u_160 u_161 i_worked i_deliveries i_isPlanned i_bestDone i_bestCost)), (q 0, .inl (E.2.1 3, 800, .inl a_tape))] H := hP
      have hD : va_D A [(q 13, .inl (E.2.1 0, 7, .inl a_boxMany)), (q 12, .inl (E.2.1 0, 504, .inl a_boxes)), (q 14, .inl (E.2.1 0, 7, .inl a_minCrew)), (q 15, .inl (E.2.1 0, 7, .inl a_maxForce)), (h0, .inr (12, mG q i_taped (nI sz9) u_154 u_155 u_156 (nI u_157) u_158 u_159 u_160 u_161 i_worked i_deliveries i_isPlanned i_bestDone i_bestCost)), (q 0, .inl (E.2.1 3, 800, .inl a_tape))] := hD
      refine lv_if_ne (tgt := 115) hx hb dX12_readLine_110 (by decide) (fun c_163 => ?_) (fun c_163 => ?_)
      · refine lv_iload_n hx hb dX12_readLine_115 rfl (lv_at hl 1 rfl) ?_
        refine lv_bipush (v := 14) hx hb dX12_readLine_116 (by decide) ?_
        refine lv_icmp_ne (tgt := 135) hx hb dX12_readLine_118 (by decide) (fun c_164 => ?_) (fun c_164 => ?_)
        · refine lv_aload_n hx hb dX12_readLine_135 rfl (lv_at hl 0 rfl) ?_
          refine va_get (D := E.1) (ci := 12) (v := .ref (q 15)) (C := RX12) (T := TX12) (N := 59) hx hb hts inX12 hown hK hP 4 rfl rfl 15 (by decide) fl33 (fun _ h9 => h9) rfl dX12_readLine_136 ?_
          refine lv_bipush (v := 6) hx hb dX12_readLine_139 (by decide) ?_
          refine lv_aload_n hx hb dX12_readLine_141 rfl (lv_at hl 0 rfl) ?_
          refine va_get (D := E.1) (ci := 12) (v := .int u_161) (C := RX12) (T := TX12) (N := 59) hx hb hts inX12 hown hK hP 4 rfl rfl 16 (by decide) fl206 (fun _ h9 => h9) rfl dX12_readLine_142 ?_
          refine va_iast hx hb hK hP hD hS 3 0 rfl rfl (show vp_in 6 7 from by unfold vp_in; decide) dX12_readLine_145 (fun H locs hP hD hS => ?_)
          have hP : va_P E.1 vwCl [(q 13, .inl (E.2.1 0, 7, .inl a_boxMany)), (q 12, .inl (E.2.1 0, 504, .inl a_boxes)), (q 14, .inl (E.2.1 0, 7, .inl a_minCrew)), (q 15, .inl (E.2.1 0, 7, .inl (upd a_maxForce (Int32.toNatClampNeg 6) u_161))), (h0, .inr (12, mG q i_taped (nI sz9) u_154 u_155 u_156 (nI u_157) u_158 u_159 u_160 u_161 i_worked i_deliveries i_isPlanned i_bestDone i_bestCost)), (q 0, .inl (E.2.1 3, 800, .inl a_tape))] H := hP
          have hD : va_D A [(q 13, .inl (E.2.1 0, 7, .inl a_boxMany)), (q 12, .inl (E.2.1 0, 504, .inl a_boxes)), (q 14, .inl (E.2.1 0, 7, .inl a_minCrew)), (q 15, .inl (E.2.1 0, 7, .inl (upd a_maxForce (Int32.toNatClampNeg 6) u_161))), (h0, .inr (12, mG q i_taped (nI sz9) u_154 u_155 u_156 (nI u_157) u_158 u_159 u_160 u_161 i_worked i_deliveries i_isPlanned i_bestDone i_bestCost)), (q 0, .inl (E.2.1 3, 800, .inl a_tape))] := hD
          obtain ⟨f_165, ef_165⟩ : ∃ g : Nat → Int32, g = upd a_maxForce (Int32.toNatClampNeg 6) u_161 := ⟨_, rfl⟩
          rw [← ef_165] at hP hD
          refine lv_goto (tgt := 299) hx hb dX12_readLine_146 (by decide) ?_
          refine lv_aload_n hx hb dX12_readLine_299 rfl (lv_at hl 0 rfl) ?_
          refine va_get (D := E.1) (ci := 12) (v := .int u_154) (C := RX12) (T := TX12) (N := 59) hx hb hts inX12 hown hK hP 4 rfl rfl 3 (by decide) fl180 (fun _ h9 => h9) rfl dX12_readLine_300 ?_
          refine lv_iconst (v := 3) hx hb dX12_readLine_303 (by decide) ?_
          refine lv_icmp_eq (tgt := 313) hx hb dX12_readLine_304 (by decide) (fun c_166 => ?_) (fun c_166 => ?_)
          · refine lv_aload_n hx hb dX12_readLine_313 rfl (lv_at hl 0 rfl) ?_
            have hPc := hP.sub (ws' := [(h0, .inr (12, mG q i_taped (nI sz9) u_154 u_155 u_156 (nI u_157) u_158 u_159 u_160 u_161 i_worked i_deliveries i_isPlanned i_bestDone i_bestCost)), (q 0, .inl (E.2.1 3, 800, .inl a_tape))]) [4, 5] rfl
            have hDc := hD.sub (ws' := [(h0, .inr (12, mG q i_taped (nI sz9) u_154 u_155 u_156 (nI u_157) u_158 u_159 u_160 u_161 i_worked i_deliveries i_isPlanned i_bestDone i_bestCost)), (q 0, .inl (E.2.1 3, 800, .inl a_tape))]) [4, 5] (by decide) rfl
            have hFc := va_free (wc := [(h0, .inr (12, mG q i_taped (nI sz9) u_154 u_155 u_156 (nI u_157) u_158 u_159 u_160 u_161 i_worked i_deliveries i_isPlanned i_bestDone i_bestCost)), (q 0, .inl (E.2.1 3, 800, .inl a_tape))]) hD hS hA [4, 5] rfl
            refine va_callv (va_runV (As := []) (rest := []) ⟨hx, hb, hml, hown, hts⟩ (c_X12_scan l E h0 q i_taped u_154 u_155 u_156 u_158 u_159 u_160 u_161 i_worked i_deliveries i_isPlanned i_bestDone i_bestCost sz9 u_157 a_tape H.size (by omega) (by omega)) (cwV 0 hts gX12_readLine_X12_scan rfl rfl rfl hdV_X12_scan ⟨Nat.le_of_ble_eq_true rfl, Nat.le_of_ble_eq_true rfl⟩) ⟨pcW_blind, va_recv hK hPc (ci := 12) (q0 := 0) rfl rfl, (pcW_pre hPc hkn hDc hst hS hFc)⟩ rfl rfl hl.1 rfl (lv_room (Nat.le_of_ble_eq_true rfl)) dX12_readLine_314 ⟨Nat.le_of_ble_eq_true rfl, Nat.le_of_ble_eq_true rfl⟩) hS (fun q _ h => hFc q h) hFc (fun u t H1 locs ht hvm hw_168 hB hz1 hk1 hS => ?_)
            obtain ⟨u_169, u_170, u_171, u_172, u_173⟩ := u
            obtain ⟨hf_174, hf_175, hP1, hD1⟩ := hB
            rw [ht] at hP1
            try dsimp only at hw_168
            obtain ⟨hP, hD⟩ := va_join (wr := [(q 13, .inl (E.2.1 0, 7, .inl a_boxMany)), (q 12, .inl (E.2.1 0, 504, .inl a_boxes)), (q 14, .inl (E.2.1 0, 7, .inl a_minCrew)), (q 15, .inl (E.2.1 0, 7, .inl f_165))]) (w1 := [(h0, .inr (12, mG q i_taped (nI sz9) u_169 u_170 u_171 (nI u_172) u_173 u_159 u_160 u_161 i_worked i_deliveries i_isPlanned i_bestDone i_bestCost)), (q 0, .inl (E.2.1 3, 800, .inl a_tape))]) hP hD [4, 5] [0, 1, 2, 3] rfl rfl (by decide) (by decide) hk1 hFc hP1 hD1
            generalize H1 = H at hP hS ⊢
            have hP : va_P E.1 vwCl [(q 13, .inl (E.2.1 0, 7, .inl a_boxMany)), (q 12, .inl (E.2.1 0, 504, .inl a_boxes)), (q 14, .inl (E.2.1 0, 7, .inl a_minCrew)), (q 15, .inl (E.2.1 0, 7, .inl f_165)), (h0, .inr (12, mG q i_taped (nI sz9) u_169 u_170 u_171 (nI u_172) u_173 u_159 u_160 u_161 i_worked i_deliveries i_isPlanned i_bestDone i_bestCost)), (q 0, .inl (E.2.1 3, 800, .inl a_tape))] H := hP
            have hD : va_D A [(q 13, .inl (E.2.1 0, 7, .inl a_boxMany)), (q 12, .inl (E.2.1 0, 504, .inl a_boxes)), (q 14, .inl (E.2.1 0, 7, .inl a_minCrew)), (q 15, .inl (E.2.1 0, 7, .inl f_165)), (h0, .inr (12, mG q i_taped (nI sz9) u_169 u_170 u_171 (nI u_172) u_173 u_159 u_160 u_161 i_worked i_deliveries i_isPlanned i_bestDone i_bestCost)), (q 0, .inl (E.2.1 3, 800, .inl a_tape))] := hD
            refine lv_iconst (v := 1) hx hb dX12_readLine_317 (by decide) ?_
            have hP9 := hP.sub (ws' := [(h0, .inr (12, mG q i_taped (nI sz9) u_169 u_170 u_171 (nI u_172) u_173 u_159 u_160 u_161 i_worked i_deliveries i_isPlanned i_bestDone i_bestCost)), (q 0, .inl (E.2.1 3, 800, .inl a_tape)), (q 12, .inl (E.2.1 0, 504, .inl a_boxes)), (q 13, .inl (E.2.1 0, 7, .inl a_boxMany)), (q 14, .inl (E.2.1 0, 7, .inl a_minCrew)), (q 15, .inl (E.2.1 0, 7, .inl f_165))]) [4, 5, 1, 0, 2, 3] rfl
            have hD9 := hD.sub (ws' := [(h0, .inr (12, mG q i_taped (nI sz9) u_169 u_170 u_171 (nI u_172) u_173 u_159 u_160 u_161 i_worked i_deliveries i_isPlanned i_bestDone i_bestCost)), (q 0, .inl (E.2.1 3, 800, .inl a_tape)), (q 12, .inl (E.2.1 0, 504, .inl a_boxes)), (q 13, .inl (E.2.1 0, 7, .inl a_boxMany)), (q 14, .inl (E.2.1 0, 7, .inl a_minCrew)), (q 15, .inl (E.2.1 0, 7, .inl f_165))]) [4, 5, 1, 0, 2, 3] (by decide) rfl
            exact W.zret (v := 1) hx hb hr (by decide) (fun t ht hW => ⟨⟨1, (u_169, u_170, u_171, u_172, u_173, u_159, u_160, u_161, a_boxes, a_boxMany, a_minCrew, f_165), rfl, ⟨Or.inr rfl, Or.inr (Or.imp_right (fun h => by omega) hf_175)⟩, hI_boxMany, (by omega), by rw [ht]; exact hP9, hD9⟩, hS.F ht⟩) hS.2.2 dX12_readLine_318
          · refine lv_aload_n hx hb dX12_readLine_307 rfl (lv_at hl 0 rfl) ?_
            refine lv_iconst (v := 1) hx hb dX12_readLine_308 (by decide) ?_
            have hPc := hP.sub (ws' := [(h0, .inr (12, mG q i_taped (nI sz9) u_154 u_155 u_156 (nI u_157) u_158 u_159 u_160 u_161 i_worked i_deliveries i_isPlanned i_bestDone i_bestCost))]) [4] rfl
            have hDc := hD.sub (ws' := [(h0, .inr (12, mG q i_taped (nI sz9) u_154 u_155 u_156 (nI u_157) u_158 u_159 u_160 u_161 i_worked i_deliveries i_isPlanned i_bestDone i_bestCost))]) [4] (by decide) rfl
            have hFc := va_free (wc := [(h0, .inr (12, mG q i_taped (nI sz9) u_154 u_155 u_156 (nI u_157) u_158 u_159 u_160 u_161 i_worked i_deliveries i_isPlanned i_bestDone i_bestCost))]) hD hS hA [4] rfl
            refine va_calli (va_runV (As := [.int 1]) (rest := []) ⟨hx, hb, hml, hown, hts⟩ (c_X12_wrong l E h0 q i_taped (nI sz9) u_154 u_155 u_156 (nI u_157) u_158 u_159 u_160 u_161 i_worked i_deliveries i_isPlanned i_bestDone i_bestCost 1 H.size ) (cwV 1 hts gX12_readLine_X12_wrong rfl rfl rfl hdV_X12_wrong ⟨Nat.le_of_ble_eq_true rfl, Nat.le_of_ble_eq_true rfl⟩) ⟨pcW_blind, va_recv hK hPc (ci := 12) (q0 := 0) rfl rfl, (pcW_pre hPc hkn hDc hst hS hFc)⟩ rfl rfl hl.1 rfl (lv_room (Nat.le_of_ble_eq_true rfl)) dX12_readLine_309 ⟨Nat.le_of_ble_eq_true rfl, Nat.le_of_ble_eq_true rfl⟩) hS (fun q _ h => hFc q h) hFc (fun r_176 u t H1 locs ht hvm hw_177 hB hz1 hk1 hS => ?_)
            obtain ⟨hP1, hD1⟩ := hB
            rw [ht] at hP1
            try dsimp only at hw_177
            obtain ⟨hP, hD⟩ := va_join (wr := [(q 13, .inl (E.2.1 0, 7, .inl a_boxMany)), (q 12, .inl (E.2.1 0, 504, .inl a_boxes)), (q 14, .inl (E.2.1 0, 7, .inl a_minCrew)), (q 15, .inl (E.2.1 0, 7, .inl f_165)), (q 0, .inl (E.2.1 3, 800, .inl a_tape))]) (w1 := [(h0, .inr (12, mG q i_taped (nI sz9) u_154 u_155 u_156 (nI u_157) u_158 1 u_156 u_161 i_worked i_deliveries i_isPlanned i_bestDone i_bestCost))]) hP hD [4] [0, 1, 2, 3, 5] rfl rfl (by decide) (by decide) hk1 hFc hP1 hD1
            generalize H1 = H at hP hS ⊢
            have hP : va_P E.1 vwCl [(q 13, .inl (E.2.1 0, 7, .inl a_boxMany)), (q 12, .inl (E.2.1 0, 504, .inl a_boxes)), (q 14, .inl (E.2.1 0, 7, .inl a_minCrew)), (q 15, .inl (E.2.1 0, 7, .inl f_165)), (q 0, .inl (E.2.1 3, 800, .inl a_tape)), (h0, .inr (12, mG q i_taped (nI sz9) u_154 u_155 u_156 (nI u_157) u_158 1 u_156 u_161 i_worked i_deliveries i_isPlanned i_bestDone i_bestCost))] H := hP
            have hD : va_D A [(q 13, .inl (E.2.1 0, 7, .inl a_boxMany)), (q 12, .inl (E.2.1 0, 504, .inl a_boxes)), (q 14, .inl (E.2.1 0, 7, .inl a_minCrew)), (q 15, .inl (E.2.1 0, 7, .inl f_165)), (q 0, .inl (E.2.1 3, 800, .inl a_tape)), (h0, .inr (12, mG q i_taped (nI sz9) u_154 u_155 u_156 (nI u_157) u_158 1 u_156 u_161 i_worked i_deliveries i_isPlanned i_bestDone i_bestCost))] := hD
            obtain rfl : r_176 = 0 := hw_177
            have hP9 := hP.sub (ws' := [(h0, .inr (12, mG q i_taped (nI sz9) u_154 u_155 u_156 (nI u_157) u_158 1 u_156 u_161 i_worked i_deliveries i_isPlanned i_bestDone i_bestCost)), (q 0, .inl (E.2.1 3, 800, .inl a_tape)), (q 12, .inl (E.2.1 0, 504, .inl a_boxes)), (q 13, .inl (E.2.1 0, 7, .inl a_boxMany)), (q 14, .inl (E.2.1 0, 7, .inl a_minCrew)), (q 15, .inl (E.2.1 0, 7, .inl f_165))]) [5, 4, 1, 0, 2, 3] rfl
            have hD9 := hD.sub (ws' := [(h0, .inr (12, mG q i_taped (nI sz9) u_154 u_155 u_156 (nI u_157) u_158 1 u_156 u_161 i_worked i_deliveries i_isPlanned i_bestDone i_bestCost)), (q 0, .inl (E.2.1 3, 800, .inl a_tape)), (q 12, .inl (E.2.1 0, 504, .inl a_boxes)), (q 13, .inl (E.2.1 0, 7, .inl a_boxMany)), (q 14, .inl (E.2.1 0, 7, .inl a_minCrew)), (q 15, .inl (E.2.1 0, 7, .inl f_165))]) [5, 4, 1, 0, 2, 3] (by decide) rfl
            exact W.zret (v := 0) hx hb hr (by decide) (fun t ht hW => ⟨⟨0, (u_154, u_155, u_156, u_157, u_158, 1, u_156, u_161, a_boxes, a_boxMany, a_minCrew, f_165), rfl, ⟨Or.inl rfl, Or.inl rfl⟩, hI_boxMany, (by omega), by rw [ht]; exact hP9, hD9⟩, hS.F ht⟩) hS.2.2 dX12_readLine_312
        · refine lv_aload_n hx hb dX12_readLine_121 rfl (lv_at hl 0 rfl) ?_
          refine va_get (D := E.1) (ci := 12) (v := .ref (q 14)) (C := RX12) (T := TX12) (N := 59) hx hb hts inX12 hown hK hP 4 rfl rfl 14 (by decide) fl30 (fun _ h9 => h9) rfl dX12_readLine_122 ?_
          refine lv_bipush (v := 6) hx hb dX12_readLine_125 (by decide) ?_
          refine lv_aload_n hx hb dX12_readLine_127 rfl (lv_at hl 0 rfl) ?_
          refine va_get (D := E.1) (ci := 12) (v := .int u_161) (C := RX12) (T := TX12) (N := 59) hx hb hts inX12 hown hK hP 4 rfl rfl 16 (by decide) fl206 (fun _ h9 => h9) rfl dX12_readLine_128 ?_
          refine va_iast hx hb hK hP hD hS 2 0 rfl rfl (show vp_in 6 7 from by unfold vp_in; decide) dX12_readLine_131 (fun H locs hP hD hS => ?_)
          have hP : va_P E.1 vwCl [(q 13, .inl (E.2.1 0, 7, .inl a_boxMany)), (q 12, .inl (E.2.1 0, 504, .inl a_boxes)), (q 14, .inl (E.2.1 0, 7, .inl (upd a_minCrew (Int32.toNatClampNeg 6) u_161))), (q 15, .inl (E.2.1 0, 7, .inl a_maxForce)), (h0, .inr (12, mG q i_taped (nI sz9) u_154 u_155 u_156 (nI u_157) u_158 u_159 u_160 u_161 i_worked i_deliveries i_isPlanned i_bestDone i_bestCost)), (q 0, .inl (E.2.1 3, 800, .inl a_tape))] H := hP
          have hD : va_D A [(q 13, .inl (E.2.1 0, 7, .inl a_boxMany)), (q 12, .inl (E.2.1 0, 504, .inl a_boxes)), (q 14, .inl (E.2.1 0, 7, .inl (upd a_minCrew (Int32.toNatClampNeg 6) u_161))), (q 15, .inl (E.2.1 0, 7, .inl a_maxForce)), (h0, .inr (12, mG q i_taped (nI sz9) u_154 u_155 u_156 (nI u_157) u_158 u_159 u_160 u_161 i_worked i_deliveries i_isPlanned i_bestDone i_bestCost)), (q 0, .inl (E.2.1 3, 800, .inl a_tape))] := hD
          obtain ⟨f_178, ef_178⟩ : ∃ g : Nat → Int32, g = upd a_minCrew (Int32.toNatClampNeg 6) u_161 := ⟨_, rfl⟩
          rw [← ef_178] at hP hD
          refine lv_goto (tgt := 299) hx hb dX12_readLine_132 (by decide) ?_
          refine lv_aload_n hx hb dX12_readLine_299 rfl (lv_at hl 0 rfl) ?_
          refine va_get (D := E.1) (ci := 12) (v := .int u_154) (C := RX12) (T := TX12) (N := 59) hx hb hts inX12 hown hK hP 4 rfl rfl 3 (by decide) fl180 (fun _ h9 => h9) rfl dX12_readLine_300 ?_
          refine lv_iconst (v := 3) hx hb dX12_readLine_303 (by decide) ?_
          refine lv_icmp_eq (tgt := 313) hx hb dX12_readLine_304 (by decide) (fun c_179 => ?_) (fun c_179 => ?_)
          · refine lv_aload_n hx hb dX12_readLine_313 rfl (lv_at hl 0 rfl) ?_
            have hPc := hP.sub (ws' := [(h0, .inr (12, mG q i_taped (nI sz9) u_154 u_155 u_156 (nI u_157) u_158 u_159 u_160 u_161 i_worked i_deliveries i_isPlanned i_bestDone i_bestCost)), (q 0, .inl (E.2.1 3, 800, .inl a_tape))]) [4, 5] rfl
            have hDc := hD.sub (ws' := [(h0, .inr (12, mG q i_taped (nI sz9) u_154 u_155 u_156 (nI u_157) u_158 u_159 u_160 u_161 i_worked i_deliveries i_isPlanned i_bestDone i_bestCost)), (q 0, .inl (E.2.1 3, 800, .inl a_tape))]) [4, 5] (by decide) rfl
            have hFc := va_free (wc := [(h0, .inr (12, mG q i_taped (nI sz9) u_154 u_155 u_156 (nI u_157) u_158 u_159 u_160 u_161 i_worked i_deliveries i_isPlanned i_bestDone i_bestCost)), (q 0, .inl (E.2.1 3, 800, .inl a_tape))]) hD hS hA [4, 5] rfl
            refine va_callv (va_runV (As := []) (rest := []) ⟨hx, hb, hml, hown, hts⟩ (c_X12_scan l E h0 q i_taped u_154 u_155 u_156 u_158 u_159 u_160 u_161 i_worked i_deliveries i_isPlanned i_bestDone i_bestCost sz9 u_157 a_tape H.size (by omega) (by omega)) (cwV 0 hts gX12_readLine_X12_scan rfl rfl rfl hdV_X12_scan ⟨Nat.le_of_ble_eq_true rfl, Nat.le_of_ble_eq_true rfl⟩) ⟨pcW_blind, va_recv hK hPc (ci := 12) (q0 := 0) rfl rfl, (pcW_pre hPc hkn hDc hst hS hFc)⟩ rfl rfl hl.1 rfl (lv_room (Nat.le_of_ble_eq_true rfl)) dX12_readLine_314 ⟨Nat.le_of_ble_eq_true rfl, Nat.le_of_ble_eq_true rfl⟩) hS (fun q _ h => hFc q h) hFc (fun u t H1 locs ht hvm hw_181 hB hz1 hk1 hS => ?_)
            obtain ⟨u_182, u_183, u_184, u_185, u_186⟩ := u
            obtain ⟨hf_187, hf_188, hP1, hD1⟩ := hB
            rw [ht] at hP1
            try dsimp only at hw_181
            obtain ⟨hP, hD⟩ := va_join (wr := [(q 13, .inl (E.2.1 0, 7, .inl a_boxMany)), (q 12, .inl (E.2.1 0, 504, .inl a_boxes)), (q 14, .inl (E.2.1 0, 7, .inl f_178)), (q 15, .inl (E.2.1 0, 7, .inl a_maxForce))]) (w1 := [(h0, .inr (12, mG q i_taped (nI sz9) u_182 u_183 u_184 (nI u_185) u_186 u_159 u_160 u_161 i_worked i_deliveries i_isPlanned i_bestDone i_bestCost)), (q 0, .inl (E.2.1 3, 800, .inl a_tape))]) hP hD [4, 5] [0, 1, 2, 3] rfl rfl (by decide) (by decide) hk1 hFc hP1 hD1
            generalize H1 = H at hP hS ⊢
            have hP : va_P E.1 vwCl [(q 13, .inl (E.2.1 0, 7, .inl a_boxMany)), (q 12, .inl (E.2.1 0, 504, .inl a_boxes)), (q 14, .inl (E.2.1 0, 7, .inl f_178)), (q 15, .inl (E.2.1 0, 7, .inl a_maxForce)), (h0, .inr (12, mG q i_taped (nI sz9) u_182 u_183 u_184 (nI u_185) u_186 u_159 u_160 u_161 i_worked i_deliveries i_isPlanned i_bestDone i_bestCost)), (q 0, .inl (E.2.1 3, 800, .inl a_tape))] H := hP
            have hD : va_D A [(q 13, .inl (E.2.1 0, 7, .inl a_boxMany)), (q 12, .inl (E.2.1 0, 504, .inl a_boxes)), (q 14, .inl (E.2.1 0, 7, .inl f_178)), (q 15, .inl (E.2.1 0, 7, .inl a_maxForce)), (h0, .inr (12, mG q i_taped (nI sz9) u_182 u_183 u_184 (nI u_185) u_186 u_159 u_160 u_161 i_worked i_deliveries i_isPlanned i_bestDone i_bestCost)), (q 0, .inl (E.2.1 3, 800, .inl a_tape))] := hD
            refine lv_iconst (v := 1) hx hb dX12_readLine_317 (by decide) ?_
            have hP9 := hP.sub (ws' := [(h0, .inr (12, mG q i_taped (nI sz9) u_182 u_183 u_184 (nI u_185) u_186 u_159 u_160 u_161 i_worked i_deliveries i_isPlanned i_bestDone i_bestCost)), (q 0, .inl (E.2.1 3, 800, .inl a_tape)), (q 12, .inl (E.2.1 0, 504, .inl a_boxes)), (q 13, .inl (E.2.1 0, 7, .inl a_boxMany)), (q 14, .inl (E.2.1 0, 7, .inl f_178)), (q 15, .inl (E.2.1 0, 7, .inl a_maxForce))]) [4, 5, 1, 0, 2, 3] rfl
            have hD9 := hD.sub (ws' := [(h0, .inr (12, mG q i_taped (nI sz9) u_182 u_183 u_184 (nI u_185) u_186 u_159 u_160 u_161 i_worked i_deliveries i_isPlanned i_bestDone i_bestCost)), (q 0, .inl (E.2.1 3, 800, .inl a_tape)), (q 12, .inl (E.2.1 0, 504, .inl a_boxes)), (q 13, .inl (E.2.1 0, 7, .inl a_boxMany)), (q 14, .inl (E.2.1 0, 7, .inl f_178)), (q 15, .inl (E.2.1 0, 7, .inl a_maxForce))]) [4, 5, 1, 0, 2, 3] (by decide) rfl
            exact W.zret (v := 1) hx hb hr (by decide) (fun t ht hW => ⟨⟨1, (u_182, u_183, u_184, u_185, u_186, u_159, u_160, u_161, a_boxes, a_boxMany, f_178, a_maxForce), rfl, ⟨Or.inr rfl, Or.inr (Or.imp_right (fun h => by omega) hf_188)⟩, hI_boxMany, (by omega), by rw [ht]; exact hP9, hD9⟩, hS.F ht⟩) hS.2.2 dX12_readLine_318
          · refine lv_aload_n hx hb dX12_readLine_307 rfl (lv_at hl 0 rfl) ?_
            refine lv_iconst (v := 1) hx hb dX12_readLine_308 (by decide) ?_
            have hPc := hP.sub (ws' := [(h0, .inr (12, mG q i_taped (nI sz9) u_154 u_155 u_156 (nI u_157) u_158 u_159 u_160 u_161 i_worked i_deliveries i_isPlanned i_bestDone i_bestCost))]) [4] rfl
            have hDc := hD.sub (ws' := [(h0, .inr (12, mG q i_taped (nI sz9) u_154 u_155 u_156 (nI u_157) u_158 u_159 u_160 u_161 i_worked i_deliveries i_isPlanned i_bestDone i_bestCost))]) [4] (by decide) rfl
            have hFc := va_free (wc := [(h0, .inr (12, mG q i_taped (nI sz9) u_154 u_155 u_156 (nI u_157) u_158 u_159 u_160 u_161 i_worked i_deliveries i_isPlanned i_bestDone i_bestCost))]) hD hS hA [4] rfl
            refine va_calli (va_runV (As := [.int 1]) (rest := []) ⟨hx, hb, hml, hown, hts⟩ (c_X12_wrong l E h0 q i_taped (nI sz9) u_154 u_155 u_156 (nI u_157) u_158 u_159 u_160 u_161 i_worked i_deliveries i_isPlanned i_bestDone i_bestCost 1 H.size ) (cwV 1 hts gX12_readLine_X12_wrong rfl rfl rfl hdV_X12_wrong ⟨Nat.le_of_ble_eq_true rfl, Nat.le_of_ble_eq_true rfl⟩) ⟨pcW_blind, va_recv hK hPc (ci := 12) (q0 := 0) rfl rfl, (pcW_pre hPc hkn hDc hst hS hFc)⟩ rfl rfl hl.1 rfl (lv_room (Nat.le_of_ble_eq_true rfl)) dX12_readLine_309 ⟨Nat.le_of_ble_eq_true rfl, Nat.le_of_ble_eq_true rfl⟩) hS (fun q _ h => hFc q h) hFc (fun r_189 u t H1 locs ht hvm hw_190 hB hz1 hk1 hS => ?_)
            obtain ⟨hP1, hD1⟩ := hB
            rw [ht] at hP1
            try dsimp only at hw_190
            obtain ⟨hP, hD⟩ := va_join (wr := [(q 13, .inl (E.2.1 0, 7, .inl a_boxMany)), (q 12, .inl (E.2.1 0, 504, .inl a_boxes)), (q 14, .inl (E.2.1 0, 7, .inl f_178)), (q 15, .inl (E.2.1 0, 7, .inl a_maxForce)), (q 0, .inl (E.2.1 3, 800, .inl a_tape))]) (w1 := [(h0, .inr (12, mG q i_taped (nI sz9) u_154 u_155 u_156 (nI u_157) u_158 1 u_156 u_161 i_worked i_deliveries i_isPlanned i_bestDone i_bestCost))]) hP hD [4] [0, 1, 2, 3, 5] rfl rfl (by decide) (by decide) hk1 hFc hP1 hD1
            generalize H1 = H at hP hS ⊢
            have hP : va_P E.1 vwCl [(q 13, .inl (E.2.1 0, 7, .inl a_boxMany)), (q 12, .inl (E.2.1 0, 504, .inl a_boxes)), (q 14, .inl (E.2.1 0, 7, .inl f_178)), (q 15, .inl (E.2.1 0, 7, .inl a_maxForce)), (q 0, .inl (E.2.1 3, 800, .inl a_tape)), (h0, .inr (12, mG q i_taped (nI sz9) u_154 u_155 u_156 (nI u_157) u_158 1 u_156 u_161 i_worked i_deliveries i_isPlanned i_bestDone i_bestCost))] H := hP
            have hD : va_D A [(q 13, .inl (E.2.1 0, 7, .inl a_boxMany)), (q 12, .inl (E.2.1 0, 504, .inl a_boxes)), (q 14, .inl (E.2.1 0, 7, .inl f_178)), (q 15, .inl (E.2.1 0, 7, .inl a_maxForce)), (q 0, .inl (E.2.1 3, 800, .inl a_tape)), (h0, .inr (12, mG q i_taped (nI sz9) u_154 u_155 u_156 (nI u_157) u_158 1 u_156 u_161 i_worked i_deliveries i_isPlanned i_bestDone i_bestCost))] := hD
            obtain rfl : r_189 = 0 := hw_190
            have hP9 := hP.sub (ws' := [(h0, .inr (12, mG q i_taped (nI sz9) u_154 u_155 u_156 (nI u_157) u_158 1 u_156 u_161 i_worked i_deliveries i_isPlanned i_bestDone i_bestCost)), (q 0, .inl (E.2.1 3, 800, .inl a_tape)), (q 12, .inl (E.2.1 0, 504, .inl a_boxes)), (q 13, .inl (E.2.1 0, 7, .inl a_boxMany)), (q 14, .inl (E.2.1 0, 7, .inl f_178)), (q 15, .inl (E.2.1 0, 7, .inl a_maxForce))]) [5, 4, 1, 0, 2, 3] rfl
            have hD9 := hD.sub (ws' := [(h0, .inr (12, mG q i_taped (nI sz9) u_154 u_155 u_156 (nI u_157) u_158 1 u_156 u_161 i_worked i_deliveries i_isPlanned i_bestDone i_bestCost)), (q 0, .inl (E.2.1 3, 800, .inl a_tape)), (q 12, .inl (E.2.1 0, 504, .inl a_boxes)), (q 13, .inl (E.2.1 0, 7, .inl a_boxMany)), (q 14, .inl (E.2.1 0, 7, .inl f_178)), (q 15, .inl (E.2.1 0, 7, .inl a_maxForce))]) [5, 4, 1, 0, 2, 3] (by decide) rfl
            exact W.zret (v := 0) hx hb hr (by decide) (fun t ht hW => ⟨⟨0, (u_154, u_155, u_156, u_157, u_158, 1, u_156, u_161, a_boxes, a_boxMany, f_178, a_maxForce), rfl, ⟨Or.inl rfl, Or.inl rfl⟩, hI_boxMany, (by omega), by rw [ht]; exact hP9, hD9⟩, hS.F ht⟩) hS.2.2 dX12_readLine_312
      · refine lv_iconst (v := 0) hx hb dX12_readLine_113 (by decide) ?_
        have hP9 := hP.sub (ws' := [(h0, .inr (12, mG q i_taped (nI sz9) u_154 u_155 u_156 (nI u_157) u_158 u_159 u_160 u_161 i_worked i_deliveries i_isPlanned i_bestDone i_bestCost)), (q 0, .inl (E.2.1 3, 800, .inl a_tape)), (q 12, .inl (E.2.1 0, 504, .inl a_boxes)), (q 13, .inl (E.2.1 0, 7, .inl a_boxMany)), (q 14, .inl (E.2.1 0, 7, .inl a_minCrew)), (q 15, .inl (E.2.1 0, 7, .inl a_maxForce))]) [4, 5, 1, 0, 2, 3] rfl
        have hD9 := hD.sub (ws' := [(h0, .inr (12, mG q i_taped (nI sz9) u_154 u_155 u_156 (nI u_157) u_158 u_159 u_160 u_161 i_worked i_deliveries i_isPlanned i_bestDone i_bestCost)), (q 0, .inl (E.2.1 3, 800, .inl a_tape)), (q 12, .inl (E.2.1 0, 504, .inl a_boxes)), (q 13, .inl (E.2.1 0, 7, .inl a_boxMany)), (q 14, .inl (E.2.1 0, 7, .inl a_minCrew)), (q 15, .inl (E.2.1 0, 7, .inl a_maxForce))]) [4, 5, 1, 0, 2, 3] (by decide) rfl
        exact W.zret (v := 0) hx hb hr (by decide) (fun t ht hW => ⟨⟨0, (u_154, u_155, u_156, u_157, u_158, u_159, u_160, u_161, a_boxes, a_boxMany, a_minCrew, a_maxForce), rfl, ⟨Or.inl rfl, Or.inl rfl⟩, hI_boxMany, (by omega), by rw [ht]; exact hP9, hD9⟩, hS.F ht⟩) hS.2.2 dX12_readLine_114
  · have hP : va_P E.1 vwCl [(h0, .inr (12, mG q i_taped (nI sz9) i_sort i_what i_at (nI en9) i_worth i_faultKind i_faultPlace i_got i_worked i_deliveries i_isPlanned i_bestDone i_bestCost)), (q 13, .inl (E.2.1 0, 7, .inl a_boxMany)), (q 0, .inl (E.2.1 3, 800, .inl a_tape)), (q 12, .inl (E.2.1 0, 504, .inl a_boxes)), (q 14, .inl (E.2.1 0, 7, .inl a_minCrew)), (q 15, .inl (E.2.1 0, 7, .inl a_maxForce))] H := hP
    have hD : va_D A [(h0, .inr (12, mG q i_taped (nI sz9) i_sort i_what i_at (nI en9) i_worth i_faultKind i_faultPlace i_got i_worked i_deliveries i_isPlanned i_bestDone i_bestCost)), (q 13, .inl (E.2.1 0, 7, .inl a_boxMany)), (q 0, .inl (E.2.1 3, 800, .inl a_tape)), (q 12, .inl (E.2.1 0, 504, .inl a_boxes)), (q 14, .inl (E.2.1 0, 7, .inl a_minCrew)), (q 15, .inl (E.2.1 0, 7, .inl a_maxForce))] := hD
    refine lv_aload_n hx hb dX12_readLine_34 rfl (lv_at hl 0 rfl) ?_
    refine lv_iconst (v := 1) hx hb dX12_readLine_35 (by decide) ?_
    have hPc := hP.sub (ws' := [(h0, .inr (12, mG q i_taped (nI sz9) i_sort i_what i_at (nI en9) i_worth i_faultKind i_faultPlace i_got i_worked i_deliveries i_isPlanned i_bestDone i_bestCost))]) [0] rfl
    have hDc := hD.sub (ws' := [(h0, .inr (12, mG q i_taped (nI sz9) i_sort i_what i_at (nI en9) i_worth i_faultKind i_faultPlace i_got i_worked i_deliveries i_isPlanned i_bestDone i_bestCost))]) [0] (by decide) rfl
    have hFc := va_free (wc := [(h0, .inr (12, mG q i_taped (nI sz9) i_sort i_what i_at (nI en9) i_worth i_faultKind i_faultPlace i_got i_worked i_deliveries i_isPlanned i_bestDone i_bestCost))]) hD hS hA [0] rfl
    refine va_calli (va_runV (As := [.int 1]) (rest := []) ⟨hx, hb, hml, hown, hts⟩ (c_X12_wrong l E h0 q i_taped (nI sz9) i_sort i_what i_at (nI en9) i_worth i_faultKind i_faultPlace i_got i_worked i_deliveries i_isPlanned i_bestDone i_bestCost 1 H.size ) (cwV 1 hts gX12_readLine_X12_wrong rfl rfl rfl hdV_X12_wrong ⟨Nat.le_of_ble_eq_true rfl, Nat.le_of_ble_eq_true rfl⟩) ⟨pcW_blind, va_recv hK hPc (ci := 12) (q0 := 0) rfl rfl, (pcW_pre hPc hkn hDc hst hS hFc)⟩ rfl rfl hl.1 rfl (lv_room (Nat.le_of_ble_eq_true rfl)) dX12_readLine_36 ⟨Nat.le_of_ble_eq_true rfl, Nat.le_of_ble_eq_true rfl⟩) hS (fun q _ h => hFc q h) hFc (fun r_191 u t H1 locs ht hvm hw_192 hB hz1 hk1 hS => ?_)
    obtain ⟨hP1, hD1⟩ := hB
    rw [ht] at hP1
    try dsimp only at hw_192
    obtain ⟨hP, hD⟩ := va_join (wr := [(q 13, .inl (E.2.1 0, 7, .inl a_boxMany)), (q 0, .inl (E.2.1 3, 800, .inl a_tape)), (q 12, .inl (E.2.1 0, 504, .inl a_boxes)), (q 14, .inl (E.2.1 0, 7, .inl a_minCrew)), (q 15, .inl (E.2.1 0, 7, .inl a_maxForce))]) (w1 := [(h0, .inr (12, mG q i_taped (nI sz9) i_sort i_what i_at (nI en9) i_worth 1 i_at i_got i_worked i_deliveries i_isPlanned i_bestDone i_bestCost))]) hP hD [0] [1, 2, 3, 4, 5] rfl rfl (by decide) (by decide) hk1 hFc hP1 hD1
    generalize H1 = H at hP hS ⊢
    have hP : va_P E.1 vwCl [(q 13, .inl (E.2.1 0, 7, .inl a_boxMany)), (q 0, .inl (E.2.1 3, 800, .inl a_tape)), (q 12, .inl (E.2.1 0, 504, .inl a_boxes)), (q 14, .inl (E.2.1 0, 7, .inl a_minCrew)), (q 15, .inl (E.2.1 0, 7, .inl a_maxForce)), (h0, .inr (12, mG q i_taped (nI sz9) i_sort i_what i_at (nI en9) i_worth 1 i_at i_got i_worked i_deliveries i_isPlanned i_bestDone i_bestCost))] H := hP
    have hD : va_D A [(q 13, .inl (E.2.1 0, 7, .inl a_boxMany)), (q 0, .inl (E.2.1 3, 800, .inl a_tape)), (q 12, .inl (E.2.1 0, 504, .inl a_boxes)), (q 14, .inl (E.2.1 0, 7, .inl a_minCrew)), (q 15, .inl (E.2.1 0, 7, .inl a_maxForce)), (h0, .inr (12, mG q i_taped (nI sz9) i_sort i_what i_at (nI en9) i_worth 1 i_at i_got i_worked i_deliveries i_isPlanned i_bestDone i_bestCost))] := hD
    obtain rfl : r_191 = 0 := hw_192
    have hP9 := hP.sub (ws' := [(h0, .inr (12, mG q i_taped (nI sz9) i_sort i_what i_at (nI en9) i_worth 1 i_at i_got i_worked i_deliveries i_isPlanned i_bestDone i_bestCost)), (q 0, .inl (E.2.1 3, 800, .inl a_tape)), (q 12, .inl (E.2.1 0, 504, .inl a_boxes)), (q 13, .inl (E.2.1 0, 7, .inl a_boxMany)), (q 14, .inl (E.2.1 0, 7, .inl a_minCrew)), (q 15, .inl (E.2.1 0, 7, .inl a_maxForce))]) [5, 1, 2, 0, 3, 4] rfl
    have hD9 := hD.sub (ws' := [(h0, .inr (12, mG q i_taped (nI sz9) i_sort i_what i_at (nI en9) i_worth 1 i_at i_got i_worked i_deliveries i_isPlanned i_bestDone i_bestCost)), (q 0, .inl (E.2.1 3, 800, .inl a_tape)), (q 12, .inl (E.2.1 0, 504, .inl a_boxes)), (q 13, .inl (E.2.1 0, 7, .inl a_boxMany)), (q 14, .inl (E.2.1 0, 7, .inl a_minCrew)), (q 15, .inl (E.2.1 0, 7, .inl a_maxForce))]) [5, 1, 2, 0, 3, 4] (by decide) rfl
    exact W.zret (v := 0) hx hb hr (by decide) (fun t ht hW => ⟨⟨0, (i_sort, i_what, i_at, en9, i_worth, 1, i_at, i_got, a_boxes, a_boxMany, a_minCrew, a_maxForce), rfl, ⟨Or.inl rfl, Or.inl rfl⟩, hI_boxMany, (by omega), by rw [ht]; exact hP9, hD9⟩, hS.F ht⟩) hS.2.2 dX12_readLine_39
  · have hP : va_P E.1 vwCl [(h0, .inr (12, mG q i_taped (nI sz9) i_sort i_what i_at (nI en9) i_worth i_faultKind i_faultPlace i_got i_worked i_deliveries i_isPlanned i_bestDone i_bestCost)), (q 13, .inl (E.2.1 0, 7, .inl a_boxMany)), (q 0, .inl (E.2.1 3, 800, .inl a_tape)), (q 12, .inl (E.2.1 0, 504, .inl a_boxes)), (q 14, .inl (E.2.1 0, 7, .inl a_minCrew)), (q 15, .inl (E.2.1 0, 7, .inl a_maxForce))] H := hP
    have hD : va_D A [(h0, .inr (12, mG q i_taped (nI sz9) i_sort i_what i_at (nI en9) i_worth i_faultKind i_faultPlace i_got i_worked i_deliveries i_isPlanned i_bestDone i_bestCost)), (q 13, .inl (E.2.1 0, 7, .inl a_boxMany)), (q 0, .inl (E.2.1 3, 800, .inl a_tape)), (q 12, .inl (E.2.1 0, 504, .inl a_boxes)), (q 14, .inl (E.2.1 0, 7, .inl a_minCrew)), (q 15, .inl (E.2.1 0, 7, .inl a_maxForce))] := hD
    refine lv_aload_n hx hb dX12_readLine_64 rfl (lv_at hl 0 rfl) ?_
    refine lv_iconst (v := 3) hx hb dX12_readLine_65 (by decide) ?_
    have hPc := hP.sub (ws' := [(h0, .inr (12, mG q i_taped (nI sz9) i_sort i_what i_at (nI en9) i_worth i_faultKind i_faultPlace i_got i_worked i_deliveries i_isPlanned i_bestDone i_bestCost))]) [0] rfl
    have hDc := hD.sub (ws' := [(h0, .inr (12, mG q i_taped (nI sz9) i_sort i_what i_at (nI en9) i_worth i_faultKind i_faultPlace i_got i_worked i_deliveries i_isPlanned i_bestDone i_bestCost))]) [0] (by decide) rfl
    have hFc := va_free (wc := [(h0, .inr (12, mG q i_taped (nI sz9) i_sort i_what i_at (nI en9) i_worth i_faultKind i_faultPlace i_got i_worked i_deliveries i_isPlanned i_bestDone i_bestCost))]) hD hS hA [0] rfl
    refine va_calli (va_runV (As := [.int 3]) (rest := []) ⟨hx, hb, hml, hown, hts⟩ (c_X12_wrong l E h0 q i_taped (nI sz9) i_sort i_what i_at (nI en9) i_worth i_faultKind i_faultPlace i_got i_worked i_deliveries i_isPlanned i_bestDone i_bestCost 3 H.size ) (cwV 1 hts gX12_readLine_X12_wrong rfl rfl rfl hdV_X12_wrong ⟨Nat.le_of_ble_eq_true rfl, Nat.le_of_ble_eq_true rfl⟩) ⟨pcW_blind, va_recv hK hPc (ci := 12) (q0 := 0) rfl rfl, (pcW_pre hPc hkn hDc hst hS hFc)⟩ rfl rfl hl.1 rfl (lv_room (Nat.le_of_ble_eq_true rfl)) dX12_readLine_66 ⟨Nat.le_of_ble_eq_true rfl, Nat.le_of_ble_eq_true rfl⟩) hS (fun q _ h => hFc q h) hFc (fun r_193 u t H1 locs ht hvm hw_194 hB hz1 hk1 hS => ?_)
    obtain ⟨hP1, hD1⟩ := hB
    rw [ht] at hP1
    try dsimp only at hw_194
    obtain ⟨hP, hD⟩ := va_join (wr := [(q 13, .inl (E.2.1 0, 7, .inl a_boxMany)), (q 0, .inl (E.2.1 3, 800, .inl a_tape)), (q 12, .inl (E.2.1 0, 504, .inl a_boxes)), (q 14, .inl (E.2.1 0, 7, .inl a_minCrew)), (q 15, .inl (E.2.1 0, 7, .inl a_maxForce))]) (w1 := [(h0, .inr (12, mG q i_taped (nI sz9) i_sort i_what i_at (nI en9) i_worth 3 i_at i_got i_worked i_deliveries i_isPlanned i_bestDone i_bestCost))]) hP hD [0] [1, 2, 3, 4, 5] rfl rfl (by decide) (by decide) hk1 hFc hP1 hD1
    generalize H1 = H at hP hS ⊢
    have hP : va_P E.1 vwCl [(q 13, .inl (E.2.1 0, 7, .inl a_boxMany)), (q 0, .inl (E.2.1 3, 800, .inl a_tape)), (q 12, .inl (E.2.1 0, 504, .inl a_boxes)), (q 14, .inl (E.2.1 0, 7, .inl a_minCrew)), (q 15, .inl (E.2.1 0, 7, .inl a_maxForce)), (h0, .inr (12, mG q i_taped (nI sz9) i_sort i_what i_at (nI en9) i_worth 3 i_at i_got i_worked i_deliveries i_isPlanned i_bestDone i_bestCost))] H := hP
    have hD : va_D A [(q 13, .inl (E.2.1 0, 7, .inl a_boxMany)), (q 0, .inl (E.2.1 3, 800, .inl a_tape)), (q 12, .inl (E.2.1 0, 504, .inl a_boxes)), (q 14, .inl (E.2.1 0, 7, .inl a_minCrew)), (q 15, .inl (E.2.1 0, 7, .inl a_maxForce)), (h0, .inr (12, mG q i_taped (nI sz9) i_sort i_what i_at (nI en9) i_worth 3 i_at i_got i_worked i_deliveries i_isPlanned i_bestDone i_bestCost))] := hD
    obtain rfl : r_193 = 0 := hw_194
    have hP9 := hP.sub (ws' := [(h0, .inr (12, mG q i_taped (nI sz9) i_sort i_what i_at (nI en9) i_worth 3 i_at i_got i_worked i_deliveries i_isPlanned i_bestDone i_bestCost)), (q 0, .inl (E.2.1 3, 800, .inl a_tape)), (q 12, .inl (E.2.1 0, 504, .inl a_boxes)), (q 13, .inl (E.2.1 0, 7, .inl a_boxMany)), (q 14, .inl (E.2.1 0, 7, .inl a_minCrew)), (q 15, .inl (E.2.1 0, 7, .inl a_maxForce))]) [5, 1, 2, 0, 3, 4] rfl
    have hD9 := hD.sub (ws' := [(h0, .inr (12, mG q i_taped (nI sz9) i_sort i_what i_at (nI en9) i_worth 3 i_at i_got i_worked i_deliveries i_isPlanned i_bestDone i_bestCost)), (q 0, .inl (E.2.1 3, 800, .inl a_tape)), (q 12, .inl (E.2.1 0, 504, .inl a_boxes)), (q 13, .inl (E.2.1 0, 7, .inl a_boxMany)), (q 14, .inl (E.2.1 0, 7, .inl a_minCrew)), (q 15, .inl (E.2.1 0, 7, .inl a_maxForce))]) [5, 1, 2, 0, 3, 4] (by decide) rfl
    exact W.zret (v := 0) hx hb hr (by decide) (fun t ht hW => ⟨⟨0, (i_sort, i_what, i_at, en9, i_worth, 3, i_at, i_got, a_boxes, a_boxMany, a_minCrew, a_maxForce), rfl, ⟨Or.inl rfl, Or.inl rfl⟩, hI_boxMany, (by omega), by rw [ht]; exact hP9, hD9⟩, hS.F ht⟩) hS.2.2 dX12_readLine_69
  · have hP : va_P E.1 vwCl [(h0, .inr (12, mG q i_taped (nI sz9) i_sort i_what i_at (nI en9) i_worth i_faultKind i_faultPlace i_got i_worked i_deliveries i_isPlanned i_bestDone i_bestCost)), (q 13, .inl (E.2.1 0, 7, .inl a_boxMany)), (q 0, .inl (E.2.1 3, 800, .inl a_tape)), (q 12, .inl (E.2.1 0, 504, .inl a_boxes)), (q 14, .inl (E.2.1 0, 7, .inl a_minCrew)), (q 15, .inl (E.2.1 0, 7, .inl a_maxForce))] H := hP
    have hD : va_D A [(h0, .inr (12, mG q i_taped (nI sz9) i_sort i_what i_at (nI en9) i_worth i_faultKind i_faultPlace i_got i_worked i_deliveries i_isPlanned i_bestDone i_bestCost)), (q 13, .inl (E.2.1 0, 7, .inl a_boxMany)), (q 0, .inl (E.2.1 3, 800, .inl a_tape)), (q 12, .inl (E.2.1 0, 504, .inl a_boxes)), (q 14, .inl (E.2.1 0, 7, .inl a_minCrew)), (q 15, .inl (E.2.1 0, 7, .inl a_maxForce))] := hD
    refine lv_aload_n hx hb dX12_readLine_88 rfl (lv_at hl 0 rfl) ?_
    refine lv_iconst (v := 4) hx hb dX12_readLine_89 (by decide) ?_
    have hPc := hP.sub (ws' := [(h0, .inr (12, mG q i_taped (nI sz9) i_sort i_what i_at (nI en9) i_worth i_faultKind i_faultPlace i_got i_worked i_deliveries i_isPlanned i_bestDone i_bestCost))]) [0] rfl
    have hDc := hD.sub (ws' := [(h0, .inr (12, mG q i_taped (nI sz9) i_sort i_what i_at (nI en9) i_worth i_faultKind i_faultPlace i_got i_worked i_deliveries i_isPlanned i_bestDone i_bestCost))]) [0] (by decide) rfl
    have hFc := va_free (wc := [(h0, .inr (12, mG q i_taped (nI sz9) i_sort i_what i_at (nI en9) i_worth i_faultKind i_faultPlace i_got i_worked i_deliveries i_isPlanned i_bestDone i_bestCost))]) hD hS hA [0] rfl
    refine va_calli (va_runV (As := [.int 4]) (rest := []) ⟨hx, hb, hml, hown, hts⟩ (c_X12_wrong l E h0 q i_taped (nI sz9) i_sort i_what i_at (nI en9) i_worth i_faultKind i_faultPlace i_got i_worked i_deliveries i_isPlanned i_bestDone i_bestCost 4 H.size ) (cwV 1 hts gX12_readLine_X12_wrong rfl rfl rfl hdV_X12_wrong ⟨Nat.le_of_ble_eq_true rfl, Nat.le_of_ble_eq_true rfl⟩) ⟨pcW_blind, va_recv hK hPc (ci := 12) (q0 := 0) rfl rfl, (pcW_pre hPc hkn hDc hst hS hFc)⟩ rfl rfl hl.1 rfl (lv_room (Nat.le_of_ble_eq_true rfl)) dX12_readLine_90 ⟨Nat.le_of_ble_eq_true rfl, Nat.le_of_ble_eq_true rfl⟩) hS (fun q _ h => hFc q h) hFc (fun r_195 u t H1 locs ht hvm hw_196 hB hz1 hk1 hS => ?_)
    obtain ⟨hP1, hD1⟩ := hB
    rw [ht] at hP1
    try dsimp only at hw_196
    obtain ⟨hP, hD⟩ := va_join (wr := [(q 13, .inl (E.2.1 0, 7, .inl a_boxMany)), (q 0, .inl (E.2.1 3, 800, .inl a_tape)), (q 12, .inl (E.2.1 0, 504, .inl a_boxes)), (q 14, .inl (E.2.1 0, 7, .inl a_minCrew)), (q 15, .inl (E.2.1 0, 7, .inl a_maxForce))]) (w1 := [(h0, .inr (12, mG q i_taped (nI sz9) i_sort i_what i_at (nI en9) i_worth 4 i_at i_got i_worked i_deliveries i_isPlanned i_bestDone i_bestCost))]) hP hD [0] [1, 2, 3, 4, 5] rfl rfl (by decide) (by decide) hk1 hFc hP1 hD1
    generalize H1 = H at hP hS ⊢
    have hP : va_P E.1 vwCl [(q 13, .inl (E.2.1 0, 7, .inl a_boxMany)), (q 0, .inl (E.2.1 3, 800, .inl a_tape)), (q 12, .inl (E.2.1 0, 504, .inl a_boxes)), (q 14, .inl (E.2.1 0, 7, .inl a_minCrew)), (q 15, .inl (E.2.1 0, 7, .inl a_maxForce)), (h0, .inr (12, mG q i_taped (nI sz9) i_sort i_what i_at (nI en9) i_worth 4 i_at i_got i_worked i_deliveries i_isPlanned i_bestDone i_bestCost))] H := hP
    have hD : va_D A [(q 13, .inl (E.2.1 0, 7, .inl a_boxMany)), (q 0, .inl (E.2.1 3, 800, .inl a_tape)), (q 12, .inl (E.2.1 0, 504, .inl a_boxes)), (q 14, .inl (E.2.1 0, 7, .inl a_minCrew)), (q 15, .inl (E.2.1 0, 7, .inl a_maxForce)), (h0, .inr (12, mG q i_taped (nI sz9) i_sort i_what i_at (nI en9) i_worth 4 i_at i_got i_worked i_deliveries i_isPlanned i_bestDone i_bestCost))] := hD
    obtain rfl : r_195 = 0 := hw_196
    have hP9 := hP.sub (ws' := [(h0, .inr (12, mG q i_taped (nI sz9) i_sort i_what i_at (nI en9) i_worth 4 i_at i_got i_worked i_deliveries i_isPlanned i_bestDone i_bestCost)), (q 0, .inl (E.2.1 3, 800, .inl a_tape)), (q 12, .inl (E.2.1 0, 504, .inl a_boxes)), (q 13, .inl (E.2.1 0, 7, .inl a_boxMany)), (q 14, .inl (E.2.1 0, 7, .inl a_minCrew)), (q 15, .inl (E.2.1 0, 7, .inl a_maxForce))]) [5, 1, 2, 0, 3, 4] rfl
    have hD9 := hD.sub (ws' := [(h0, .inr (12, mG q i_taped (nI sz9) i_sort i_what i_at (nI en9) i_worth 4 i_at i_got i_worked i_deliveries i_isPlanned i_bestDone i_bestCost)), (q 0, .inl (E.2.1 3, 800, .inl a_tape)), (q 12, .inl (E.2.1 0, 504, .inl a_boxes)), (q 13, .inl (E.2.1 0, 7, .inl a_boxMany)), (q 14, .inl (E.2.1 0, 7, .inl a_minCrew)), (q 15, .inl (E.2.1 0, 7, .inl a_maxForce))]) [5, 1, 2, 0, 3, 4] (by decide) rfl
    exact W.zret (v := 0) hx hb hr (by decide) (fun t ht hW => ⟨⟨0, (i_sort, i_what, i_at, en9, i_worth, 4, i_at, i_got, a_boxes, a_boxMany, a_minCrew, a_maxForce), rfl, ⟨Or.inl rfl, Or.inl rfl⟩, hI_boxMany, (by omega), by rw [ht]; exact hP9, hD9⟩, hS.F ht⟩) hS.2.2 dX12_readLine_93
set_option maxHeartbeats 4000000 in
set_option maxRecDepth 100000 in
theorem lm_ins1 {p : Program} {l : Launch} {e : Env} {s : State} {m : MethodId} {args : Array Value} {below : List Frame} {meth : Method} {c : Code} {Q : State → Prop} {A : Nat → Prop} (E : vE) (h0 : Nat) (q : Nat → Nat) (i_taped : Int32) (i_worked : Int32) (i_deliveries : Int32) (i_isPlanned : Int32) (i_bestDone : Int32) (i_bestCost : Int32) (sz9 : Nat) (b : Nat) (a_tape : Nat → Int32) (hx : p.tables.exec = Jvm.exec) (hb : c.code = cX12_insurer) (hml : c.maxLocals = 7) (hown : s.vm.findClass RX12 = some m.cls) (hts : ∀ w ∈ wsX12_insurer, w.before args s = true) (hkn : kn E s) (hst : st E A s s.heap) (hA : ∀ q : Nat, s.heap.size ≤ q → A q) (hsz : sz9 ≤ 800) (kk : ∀ (li_ : Int32) (i_sort : Int32) (i_what : Int32) (i_at : Int32) (en9 : Nat) (i_worth : Int32) (i_faultKind : Int32) (i_faultPlace : Int32) (i_got : Int32) (a_boxes : Nat → Int32) (a_boxMany : Nat → Int32) (a_minCrew : Nat → Int32) (a_maxForce : Nat → Int32) (H : Heap) (locs : List Loc) (ls : Array Slot), (en9 ≤ sz9) → (∀ k : Nat, k < 7 → inR (a_boxMany k) 0 12 = true) → va_P E.1 vwCl [(h0, .inr (12, mG q i_taped (nI sz9) i_sort i_what i_at (nI en9) i_worth i_faultKind i_faultPlace i_got i_worked i_deliveries i_isPlanned i_bestDone i_bestCost)), (q 0, .inl (E.2.1 3, 800, .inl a_tape)), (q 12, .inl (E.2.1 0, 504, .inl a_boxes)), (q 13, .inl (E.2.1 0, 7, .inl a_boxMany)), (q 14, .inl (E.2.1 0, 7, .inl a_minCrew)), (q 15, .inl (E.2.1 0, 7, .inl a_maxForce))] H → va_D A [(h0, .inr (12, mG q i_taped (nI sz9) i_sort i_what i_at (nI en9) i_worth i_faultKind i_faultPlace i_got i_worked i_deliveries i_isPlanned i_bestDone i_bestCost)), (q 0, .inl (E.2.1 3, 800, .inl a_tape)), (q 12, .inl (E.2.1 0, 504, .inl a_boxes)), (q 13, .inl (E.2.1 0, 7, .inl a_boxMany)), (q 14, .inl (E.2.1 0, 7, .inl a_minCrew)), (q 15, .inl (E.2.1 0, 7, .inl a_maxForce))] → va_S A s.heap H locs → lv_has ls 7 [(0, .ref h0), (1, .int (nI b)), (4, .int li_)] → W p l e ({ frames := 8, cells := 0, slots := 0, locals := 182 }) s m args below meth c H locs 0 0 Q (F0 m 162 ls [])) (kk2 : ∀ (i_sort : Int32) (i_what : Int32) (i_at : Int32) (en9 : Nat) (i_worth : Int32) (i_faultKind : Int32) (i_faultPlace : Int32) (i_got : Int32) (a_boxes : Nat → Int32) (a_boxMany : Nat → Int32) (a_minCrew : Nat → Int32) (a_maxForce : Nat → Int32) (H : Heap) (locs : List Loc) (ls : Array Slot), (∀ k : Nat, k < 7 → inR (a_boxMany k) 0 12 = true) → va_P E.1 vwCl [(h0, .inr (12, mG q i_taped (nI sz9) i_sort i_what i_at (nI en9) i_worth i_faultKind i_faultPlace i_got i_worked i_deliveries i_isPlanned i_bestDone i_bestCost)), (q 0, .inl (E.2.1 3, 800, .inl a_tape)), (q 12, .inl (E.2.1 0, 504, .inl a_boxes)), (q 13, .inl (E.2.1 0, 7, .inl a_boxMany)), (q 14, .inl (E.2.1 0, 7, .inl a_minCrew)), (q 15, .inl (E.2.1 0, 7, .inl a_maxForce))] H → va_D A [(h0, .inr (12, mG q i_taped (nI sz9) i_sort i_what i_at (nI en9) i_worth i_faultKind i_faultPlace i_got i_worked i_deliveries i_isPlanned i_bestDone i_bestCost)), (q 0, .inl (E.2.1 3, 800, .inl a_tape)), (q 12, .inl (E.2.1 0, 504, .inl a_boxes)), (q 13, .inl (E.2.1 0, 7, .inl a_boxMany)), (q 14, .inl (E.2.1 0, 7, .inl a_minCrew)), (q 15, .inl (E.2.1 0, 7, .inl a_maxForce))] → va_S A s.heap H locs → lv_has ls 7 [(0, .ref h0), (1, .int (nI b))] → W p l e ({ frames := 8, cells := 0, slots := 0, locals := 182 }) s m args below meth c H locs 0 0 Q (F0 m 124 ls [])) : ∀ (n0 : Nat) (hc : Int32) (hf : Int32) (li_ : Int32) (i_sort : Int32) (i_what : Int32) (i_at : Int32) (en9 : Nat) (i_worth : Int32) (i_faultKind : Int32) (i_faultPlace : Int32) (i_got : Int32) (a_boxes : Nat → Int32) (a_boxMany : Nat → Int32) (a_minCrew : Nat → Int32) (a_maxForce : Nat → Int32) (H : Heap) (locs : List Loc) (ls : Array Slot), 2 * (sz9 - en9) + (if i_sort = 4 then 0 else 1) < n0 → (en9 ≤ sz9) → (∀ k : Nat, k < 7 → inR (a_boxMany k) 0 12 = true) → va_P E.1 vwCl [(h0, .inr (12, mG q i_taped (nI sz9) i_sort i_what i_at (nI en9) i_worth i_faultKind i_faultPlace i_got i_worked i_deliveries i_isPlanned i_bestDone i_bestCost)), (q 0, .inl (E.2.1 3, 800, .inl a_tape)), (q 12, .inl (E.2.1 0, 504, .inl a_boxes)), (q 13, .inl (E.2.1 0, 7, .inl a_boxMany)), (q 14, .inl (E.2.1 0, 7, .inl a_minCrew)), (q 15, .inl (E.2.1 0, 7, .inl a_maxForce))] H → va_D A [(h0, .inr (12, mG q i_taped (nI sz9) i_sort i_what i_at (nI en9) i_worth i_faultKind i_faultPlace i_got i_worked i_deliveries i_isPlanned i_bestDone i_bestCost)), (q 0, .inl (E.2.1 3, 800, .inl a_tape)), (q 12, .inl (E.2.1 0, 504, .inl a_boxes)), (q 13, .inl (E.2.1 0, 7, .inl a_boxMany)), (q 14, .inl (E.2.1 0, 7, .inl a_minCrew)), (q 15, .inl (E.2.1 0, 7, .inl a_maxForce))] → va_S A s.heap H locs → lv_has ls 7 [(0, .ref h0), (1, .int (nI b)), (2, .int hc), (3, .int hf), (4, .int li_)] → W p l e ({ frames := 8, cells := 0, slots := 0, locals := 182 }) s m args below meth c H locs 0 0 Q (F0 m 60 ls []) := by
  have hK := hkn.1
  have hAO := hkn.2.2.1
  have fl13 := hts (.fieldLink RX12 13 "BoatsHomeModel" "faultPlace" "I") (by first | exact List.mem_of_getElem? (i := 2) rfl | decide +kernel)
  have fl24 := hts (.fieldLink RX12 24 "BoatsHomeModel" "boxes" "[I") (by first | exact List.mem_of_getElem? (i := 8) rfl | decide +kernel)
  have fl27 := hts (.fieldLink RX12 27 "BoatsHomeModel" "boxMany" "[I") (by first | exact List.mem_of_getElem? (i := 3) rfl | decide +kernel)
  have fl30 := hts (.fieldLink RX12 30 "BoatsHomeModel" "minCrew" "[I") (by first | exact List.mem_of_getElem? (i := 4) rfl | decide +kernel)
  have fl33 := hts (.fieldLink RX12 33 "BoatsHomeModel" "maxForce" "[I") (by first | exact List.mem_of_getElem? (i := 5) rfl | decide +kernel)
  have fl180 := hts (.fieldLink RX12 180 "BoatsHomeModel" "sort" "I") (by first | exact List.mem_of_getElem? (i := 6) rfl | decide +kernel)
  have fl191 := hts (.fieldLink RX12 191 "BoatsHomeModel" "what" "I") (by first | exact List.mem_of_getElem? (i := 7) rfl | decide +kernel)
  have fl200 := hts (.fieldLink RX12 200 "BoatsHomeModel" "faultKind" "I") (by first | exact List.mem_of_getElem? (i := 1) rfl | decide +kernel)
  have inX12 : ∀ w ∈ u_ws RX12 TX12 59, w ∈ wsX12_insurer := by first | exact fun w h9 => (List.mem_cons_of_mem _ (List.mem_append_right _ h9)) | decide +kernel
  intro n0
  induction n0 with
  | zero =>
    intro hc hf li_ i_sort i_what i_at en9 i_worth i_faultKind i_faultPlace i_got a_boxes a_boxMany a_minCrew a_maxForce H locs ls hn0
    exact absurd hn0 (Nat.not_lt_zero _)
  | succ n0 ih =>
    intro hc hf li_ i_sort i_what i_at en9 i_worth i_faultKind i_faultPlace i_got a_boxes a_boxMany a_minCrew a_maxForce H locs ls hn0 hen hI_boxMany hP hD hS hl
    refine lv_aload_n hx hb dX12_insurer_60 rfl (lv_at hl 0 rfl) ?_
    refine va_get (D := E.1) (ci := 12) (v := .int i_sort) (C := RX12) (T := TX12) (N := 59) hx hb hts inX12 hown hK hP 0 rfl rfl 3 (by decide) fl180 (fun _ h9 => h9) rfl dX12_insurer_61 ?_
    refine lv_iconst (v := 4) hx hb dX12_insurer_64 (by decide) ?_
    refine lv_icmp_eq (tgt := 162) hx hb dX12_insurer_65 (by decide) (fun c_1 => ?_) (fun c_1 => ?_)
    · exact kk li_ i_sort i_what i_at en9 i_worth i_faultKind i_faultPlace i_got a_boxes a_boxMany a_minCrew a_maxForce _ _ _ hen hI_boxMany (hP.sub [0, 1, 2, 3, 4, 5] rfl) (hD.sub [0, 1, 2, 3, 4, 5] (by decide) rfl) hS (lv_sub hl [0, 1, 4] rfl)
    · refine lv_aload_n hx hb dX12_insurer_68 rfl (lv_at hl 0 rfl) ?_
      refine va_get (D := E.1) (ci := 12) (v := .int i_sort) (C := RX12) (T := TX12) (N := 59) hx hb hts inX12 hown hK hP 0 rfl rfl 3 (by decide) fl180 (fun _ h9 => h9) rfl dX12_insurer_69 ?_
      refine lv_iconst (v := 1) hx hb dX12_insurer_72 (by decide) ?_
      refine lv_icmp_ne (tgt := 89) hx hb dX12_insurer_73 (by decide) (fun c_2 => ?_) (fun c_2 => ?_)
      · refine lv_iconst (v := 0) hx hb dX12_insurer_89 (by decide) ?_
        refine lv_istore (lv' := [(5, .int 0), (0, .ref h0), (1, .int (nI b)), (2, .int hc), (3, .int hf), (4, .int li_)]) hx hb dX12_insurer_90 hl (by decide) rfl (fun ls hl => ?_)
        refine lv_aload_n hx hb dX12_insurer_92 rfl (lv_at hl 1 rfl) ?_
        refine va_get (D := E.1) (ci := 12) (v := .int i_sort) (C := RX12) (T := TX12) (N := 59) hx hb hts inX12 hown hK hP 0 rfl rfl 3 (by decide) fl180 (fun _ h9 => h9) rfl dX12_insurer_93 ?_
        refine lv_iconst (v := 1) hx hb dX12_insurer_96 (by decide) ?_
        refine lv_icmp_ne (tgt := 112) hx hb dX12_insurer_97 (by decide) (fun c_3 => ?_) (fun c_3 => ?_)
        · refine lv_iconst (v := 0) hx hb dX12_insurer_112 (by decide) ?_
          refine lv_istore (lv' := [(6, .int 0), (5, .int 0), (0, .ref h0), (1, .int (nI b)), (2, .int hc), (3, .int hf), (4, .int li_)]) hx hb dX12_insurer_113 hl (by decide) rfl (fun ls hl => ?_)
          refine lv_aload_n hx hb dX12_insurer_115 rfl (lv_at hl 2 rfl) ?_
          refine lv_iload_n hx hb dX12_insurer_116 rfl (lv_at hl 4 rfl) ?_
          refine lv_iload_n hx hb dX12_insurer_117 rfl (lv_at hl 5 rfl) ?_
          have hPc := hP.sub (ws' := [(h0, .inr (12, mG q i_taped (nI sz9) i_sort i_what i_at (nI en9) i_worth i_faultKind i_faultPlace i_got i_worked i_deliveries i_isPlanned i_bestDone i_bestCost)), (q 0, .inl (E.2.1 3, 800, .inl a_tape)), (q 12, .inl (E.2.1 0, 504, .inl a_boxes)), (q 13, .inl (E.2.1 0, 7, .inl a_boxMany)), (q 14, .inl (E.2.1 0, 7, .inl a_minCrew)), (q 15, .inl (E.2.1 0, 7, .inl a_maxForce))]) [0, 1, 2, 3, 4, 5] rfl
          have hDc := hD.sub (ws' := [(h0, .inr (12, mG q i_taped (nI sz9) i_sort i_what i_at (nI en9) i_worth i_faultKind i_faultPlace i_got i_worked i_deliveries i_isPlanned i_bestDone i_bestCost)), (q 0, .inl (E.2.1 3, 800, .inl a_tape)), (q 12, .inl (E.2.1 0, 504, .inl a_boxes)), (q 13, .inl (E.2.1 0, 7, .inl a_boxMany)), (q 14, .inl (E.2.1 0, 7, .inl a_minCrew)), (q 15, .inl (E.2.1 0, 7, .inl a_maxForce))]) [0, 1, 2, 3, 4, 5] (by decide) rfl
          have hFc := va_free (wc := [(h0, .inr (12, mG q i_taped (nI sz9) i_sort i_what i_at (nI en9) i_worth i_faultKind i_faultPlace i_got i_worked i_deliveries i_isPlanned i_bestDone i_bestCost)), (q 0, .inl (E.2.1 3, 800, .inl a_tape)), (q 12, .inl (E.2.1 0, 504, .inl a_boxes)), (q 13, .inl (E.2.1 0, 7, .inl a_boxMany)), (q 14, .inl (E.2.1 0, 7, .inl a_minCrew)), (q 15, .inl (E.2.1 0, 7, .inl a_maxForce))]) hD hS hA [0, 1, 2, 3, 4, 5] rfl
          refine va_calli (va_runV (As := [.int hc, .int hf]) (rest := []) ⟨hx, hb, hml, hown, hts⟩ (c_X12_readLine l E h0 q i_taped i_sort i_what i_at i_worth i_faultKind i_faultPlace i_got i_worked i_deliveries i_isPlanned i_bestDone i_bestCost sz9 en9 a_tape a_boxes a_boxMany a_minCrew a_maxForce hc hf H.size (by omega) (by omega) hI_boxMany) (cwV 2 hts gX12_insurer_X12_readLine rfl rfl rfl hdV_X12_readLine ⟨Nat.le_of_ble_eq_true rfl, Nat.le_of_ble_eq_true rfl⟩) ⟨pcW_blind, va_recv hK hPc (ci := 12) (q0 := 0) rfl rfl, (pcW_pre hPc hkn hDc hst hS hFc)⟩ rfl rfl hl.1 rfl (lv_room (Nat.le_of_ble_eq_true rfl)) dX12_insurer_118 ⟨Nat.le_of_ble_eq_true rfl, Nat.le_of_ble_eq_true rfl⟩) hS (fun q _ h => hFc q h) hFc (fun r_4 u t H1 locs ht hvm hw_5 hB hz1 hk1 hS => ?_)
          obtain ⟨u_6, u_7, u_8, u_9, u_10, u_11, u_12, u_13, u_14, u_15, u_16, u_17⟩ := u
          obtain ⟨hf_18, hf_19, hP1, hD1⟩ := hB
          rw [ht] at hP1
          try dsimp only at hw_5
          obtain ⟨hP, hD⟩ := va_join (wr := []) (w1 := [(h0, .inr (12, mG q i_taped (nI sz9) u_6 u_7 u_8 (nI u_9) u_10 u_11 u_12 u_13 i_worked i_deliveries i_isPlanned i_bestDone i_bestCost)), (q 0, .inl (E.2.1 3, 800, .inl a_tape)), (q 12, .inl (E.2.1 0, 504, .inl u_14)), (q 13, .inl (E.2.1 0, 7, .inl u_15)), (q 14, .inl (E.2.1 0, 7, .inl u_16)), (q 15, .inl (E.2.1 0, 7, .inl u_17))]) hP hD [0, 1, 2, 3, 4, 5] [] rfl rfl (by decide) (by decide) hk1 hFc hP1 hD1
          generalize H1 = H at hP hS ⊢
          have hP : va_P E.1 vwCl [(h0, .inr (12, mG q i_taped (nI sz9) u_6 u_7 u_8 (nI u_9) u_10 u_11 u_12 u_13 i_worked i_deliveries i_isPlanned i_bestDone i_bestCost)), (q 0, .inl (E.2.1 3, 800, .inl a_tape)), (q 12, .inl (E.2.1 0, 504, .inl u_14)), (q 13, .inl (E.2.1 0, 7, .inl u_15)), (q 14, .inl (E.2.1 0, 7, .inl u_16)), (q 15, .inl (E.2.1 0, 7, .inl u_17))] H := hP
          have hD : va_D A [(h0, .inr (12, mG q i_taped (nI sz9) u_6 u_7 u_8 (nI u_9) u_10 u_11 u_12 u_13 i_worked i_deliveries i_isPlanned i_bestDone i_bestCost)), (q 0, .inl (E.2.1 3, 800, .inl a_tape)), (q 12, .inl (E.2.1 0, 504, .inl u_14)), (q 13, .inl (E.2.1 0, 7, .inl u_15)), (q 14, .inl (E.2.1 0, 7, .inl u_16)), (q 15, .inl (E.2.1 0, 7, .inl u_17))] := hD
          refine lv_if_ne (tgt := 126) hx hb dX12_insurer_121 (by decide) (fun c_20 => ?_) (fun c_20 => ?_)
          · refine lv_iload_n hx hb dX12_insurer_126 rfl (lv_at hl 4 rfl) ?_
            refine lv_if_ne (tgt := 135) hx hb dX12_insurer_127 (by decide) (fun c_21 => ?_) (fun c_21 => ?_)
            · refine lv_iconst (v := 1) hx hb dX12_insurer_135 (by decide) ?_
              refine lv_goto (tgt := 140) hx hb dX12_insurer_136 (by decide) ?_
              refine lv_istore_n (lv' := [(2, .int 1), (6, .int 0), (5, .int 0), (0, .ref h0), (1, .int (nI b)), (3, .int hf), (4, .int li_)]) hx hb dX12_insurer_140 rfl hl (by decide) rfl (fun ls hl => ?_)
              refine lv_iload_n hx hb dX12_insurer_141 rfl (lv_at hl 5 rfl) ?_
              refine lv_if_ne (tgt := 150) hx hb dX12_insurer_142 (by decide) (fun c_22 => ?_) (fun c_22 => ?_)
              · refine lv_iconst (v := 1) hx hb dX12_insurer_150 (by decide) ?_
                refine lv_goto (tgt := 155) hx hb dX12_insurer_151 (by decide) ?_
                refine lv_istore_n (lv' := [(3, .int 1), (2, .int 1), (6, .int 0), (5, .int 0), (0, .ref h0), (1, .int (nI b)), (4, .int li_)]) hx hb dX12_insurer_155 rfl hl (by decide) rfl (fun ls hl => ?_)
                obtain ⟨x_23, ex_23⟩ : ∃ y : Int32, y = li_ + 1 := ⟨_, rfl⟩
                refine lv_iinc (v := x_23) (lv' := [(4, .int x_23), (3, .int 1), (2, .int 1), (6, .int 0), (5, .int 0), (0, .ref h0), (1, .int (nI b))]) hx hb dX12_insurer_156 hl (k := 6) rfl (by rw [ex_23]; rfl) (by decide) rfl (fun ls hl => ?_)
                refine lv_goto (tgt := 60) hx hb dX12_insurer_159 (by decide) ?_
                exact ih 1 1 x_23 u_6 u_7 u_8 u_9 u_10 u_11 u_12 u_13 u_14 u_15 u_16 u_17 _ _ _ (by
                        have h9 := (hw_5.2).resolve_left c_20
                        rw [if_neg c_1] at hn0
                        rcases h9 with h9 | h9
                        · rw [if_pos h9]; omega
                        · split <;> omega) (by omega) hf_18 (hP.sub [0, 1, 2, 3, 4, 5] rfl) (hD.sub [0, 1, 2, 3, 4, 5] (by decide) rfl) hS (lv_sub hl [5, 6, 2, 1, 0] rfl)
              · refine lv_iload hx hb dX12_insurer_145 (lv_at hl 1 rfl) ?_
                refine lv_if_eq (tgt := 154) hx hb dX12_insurer_147 (by decide) (fun _ => ?_) (fun c9 => absurd c9 (by decide))
                refine lv_iconst (v := 0) hx hb dX12_insurer_154 (by decide) ?_
                refine lv_istore_n (lv' := [(3, .int 0), (2, .int 1), (6, .int 0), (5, .int 0), (0, .ref h0), (1, .int (nI b)), (4, .int li_)]) hx hb dX12_insurer_155 rfl hl (by decide) rfl (fun ls hl => ?_)
                obtain ⟨x_24, ex_24⟩ : ∃ y : Int32, y = li_ + 1 := ⟨_, rfl⟩
                refine lv_iinc (v := x_24) (lv' := [(4, .int x_24), (3, .int 0), (2, .int 1), (6, .int 0), (5, .int 0), (0, .ref h0), (1, .int (nI b))]) hx hb dX12_insurer_156 hl (k := 6) rfl (by rw [ex_24]; rfl) (by decide) rfl (fun ls hl => ?_)
                refine lv_goto (tgt := 60) hx hb dX12_insurer_159 (by decide) ?_
                exact ih 1 0 x_24 u_6 u_7 u_8 u_9 u_10 u_11 u_12 u_13 u_14 u_15 u_16 u_17 _ _ _ (by
                        have h9 := (hw_5.2).resolve_left c_20
                        rw [if_neg c_1] at hn0
                        rcases h9 with h9 | h9
                        · rw [if_pos h9]; omega
                        · split <;> omega) (by omega) hf_18 (hP.sub [0, 1, 2, 3, 4, 5] rfl) (hD.sub [0, 1, 2, 3, 4, 5] (by decide) rfl) hS (lv_sub hl [5, 6, 2, 1, 0] rfl)
            · refine lv_iload hx hb dX12_insurer_130 (lv_at hl 1 rfl) ?_
              refine lv_if_eq (tgt := 139) hx hb dX12_insurer_132 (by decide) (fun _ => ?_) (fun c9 => absurd c9 (by decide))
              refine lv_iconst (v := 0) hx hb dX12_insurer_139 (by decide) ?_
              refine lv_istore_n (lv' := [(2, .int 0), (6, .int 0), (5, .int 0), (0, .ref h0), (1, .int (nI b)), (3, .int hf), (4, .int li_)]) hx hb dX12_insurer_140 rfl hl (by decide) rfl (fun ls hl => ?_)
              refine lv_iload_n hx hb dX12_insurer_141 rfl (lv_at hl 5 rfl) ?_
              refine lv_if_ne (tgt := 150) hx hb dX12_insurer_142 (by decide) (fun c_25 => ?_) (fun c_25 => ?_)
              · refine lv_iconst (v := 1) hx hb dX12_insurer_150 (by decide) ?_
                refine lv_goto (tgt := 155) hx hb dX12_insurer_151 (by decide) ?_
                refine lv_istore_n (lv' := [(3, .int 1), (2, .int 0), (6, .int 0), (5, .int 0), (0, .ref h0), (1, .int (nI b)), (4, .int li_)]) hx hb dX12_insurer_155 rfl hl (by decide) rfl (fun ls hl => ?_)
                obtain ⟨x_26, ex_26⟩ : ∃ y : Int32, y = li_ + 1 := ⟨_, rfl⟩
                refine lv_iinc (v := x_26) (lv' := [(4, .int x_26), (3, .int 1), (2, .int 0), (6, .int 0), (5, .int 0), (0, .ref h0), (1, .int (nI b))]) hx hb dX12_insurer_156 hl (k := 6) rfl (by rw [ex_26]; rfl) (by decide) rfl (fun ls hl => ?_)
                refine lv_goto (tgt := 60) hx hb dX12_insurer_159 (by decide) ?_
                exact ih 0 1 x_26 u_6 u_7 u_8 u_9 u_10 u_11 u_12 u_13 u_14 u_15 u_16 u_17 _ _ _ (by
                        have h9 := (hw_5.2).resolve_left c_20
                        rw [if_neg c_1] at hn0
                        rcases h9 with h9 | h9
                        · rw [if_pos h9]; omega
                        · split <;> omega) (by omega) hf_18 (hP.sub [0, 1, 2, 3, 4, 5] rfl) (hD.sub [0, 1, 2, 3, 4, 5] (by decide) rfl) hS (lv_sub hl [5, 6, 2, 1, 0] rfl)
              · refine lv_iload hx hb dX12_insurer_145 (lv_at hl 1 rfl) ?_
                refine lv_if_eq (tgt := 154) hx hb dX12_insurer_147 (by decide) (fun _ => ?_) (fun c9 => absurd c9 (by decide))
                refine lv_iconst (v := 0) hx hb dX12_insurer_154 (by decide) ?_
                refine lv_istore_n (lv' := [(3, .int 0), (2, .int 0), (6, .int 0), (5, .int 0), (0, .ref h0), (1, .int (nI b)), (4, .int li_)]) hx hb dX12_insurer_155 rfl hl (by decide) rfl (fun ls hl => ?_)
                obtain ⟨x_27, ex_27⟩ : ∃ y : Int32, y = li_ + 1 := ⟨_, rfl⟩
                refine lv_iinc (v := x_27) (lv' := [(4, .int x_27), (3, .int 0), (2, .int 0), (6, .int 0), (5, .int 0), (0, .ref h0), (1, .int (nI b))]) hx hb dX12_insurer_156 hl (k := 6) rfl (by rw [ex_27]; rfl) (by decide) rfl (fun ls hl => ?_)
                refine lv_goto (tgt := 60) hx hb dX12_insurer_159 (by decide) ?_
                exact ih 0 0 x_27 u_6 u_7 u_8 u_9 u_10 u_11 u_12 u_13 u_14 u_15 u_16 u_17 _ _ _ (by
                        have h9 := (hw_5.2).resolve_left c_20
                        rw [if_neg c_1] at hn0
                        rcases h9 with h9 | h9
                        · rw [if_pos h9]; omega
                        · split <;> omega) (by omega) hf_18 (hP.sub [0, 1, 2, 3, 4, 5] rfl) (hD.sub [0, 1, 2, 3, 4, 5] (by decide) rfl) hS (lv_sub hl [5, 6, 2, 1, 0] rfl)
          · exact kk2 u_6 u_7 u_8 u_9 u_10 u_11 u_12 u_13 u_14 u_15 u_16 u_17 _ _ _ hf_18 (hP.sub [0, 1, 2, 3, 4, 5] rfl) (hD.sub [0, 1, 2, 3, 4, 5] (by decide) rfl) hS (lv_sub hl [2, 3] rfl)
        · refine lv_aload_n hx hb dX12_insurer_100 rfl (lv_at hl 1 rfl) ?_
          refine va_get (D := E.1) (ci := 12) (v := .int i_what) (C := RX12) (T := TX12) (N := 59) hx hb hts inX12 hown hK hP 0 rfl rfl 4 (by decide) fl191 (fun _ h9 => h9) rfl dX12_insurer_101 ?_
          refine lv_iconst (v := 1) hx hb dX12_insurer_104 (by decide) ?_
          refine lv_icmp_ne (tgt := 112) hx hb dX12_insurer_105 (by decide) (fun c_28 => ?_) (fun c_28 => ?_)
          · refine lv_iconst (v := 0) hx hb dX12_insurer_112 (by decide) ?_
            refine lv_istore (lv' := [(6, .int 0), (5, .int 0), (0, .ref h0), (1, .int (nI b)), (2, .int hc), (3, .int hf), (4, .int li_)]) hx hb dX12_insurer_113 hl (by decide) rfl (fun ls hl => ?_)
            refine lv_aload_n hx hb dX12_insurer_115 rfl (lv_at hl 2 rfl) ?_
            refine lv_iload_n hx hb dX12_insurer_116 rfl (lv_at hl 4 rfl) ?_
            refine lv_iload_n hx hb dX12_insurer_117 rfl (lv_at hl 5 rfl) ?_
            have hPc := hP.sub (ws' := [(h0, .inr (12, mG q i_taped (nI sz9) i_sort i_what i_at (nI en9) i_worth i_faultKind i_faultPlace i_got i_worked i_deliveries i_isPlanned i_bestDone i_bestCost)), (q 0, .inl (E.2.1 3, 800, .inl a_tape)), (q 12, .inl (E.2.1 0, 504, .inl a_boxes)), (q 13, .inl (E.2.1 0, 7, .inl a_boxMany)), (q 14, .inl (E.2.1 0, 7, .inl a_minCrew)), (q 15, .inl (E.2.1 0, 7, .inl a_maxForce))]) [0, 1, 2, 3, 4, 5] rfl
            have hDc := hD.sub (ws' := [(h0, .inr (12, mG q i_taped (nI sz9) i_sort i_what i_at (nI en9) i_worth i_faultKind i_faultPlace i_got i_worked i_deliveries i_isPlanned i_bestDone i_bestCost)), (q 0, .inl (E.2.1 3, 800, .inl a_tape)), (q 12, .inl (E.2.1 0, 504, .inl a_boxes)), (q 13, .inl (E.2.1 0, 7, .inl a_boxMany)), (q 14, .inl (E.2.1 0, 7, .inl a_minCrew)), (q 15, .inl (E.2.1 0, 7, .inl a_maxForce))]) [0, 1, 2, 3, 4, 5] (by decide) rfl
            have hFc := va_free (wc := [(h0, .inr (12, mG q i_taped (nI sz9) i_sort i_what i_at (nI en9) i_worth i_faultKind i_faultPlace i_got i_worked i_deliveries i_isPlanned i_bestDone i_bestCost)), (q 0, .inl (E.2.1 3, 800, .inl a_tape)), (q 12, .inl (E.2.1 0, 504, .inl a_boxes)), (q 13, .inl (E.2.1 0, 7, .inl a_boxMany)), (q 14, .inl (E.2.1 0, 7, .inl a_minCrew)), (q 15, .inl (E.2.1 0, 7, .inl a_maxForce))]) hD hS hA [0, 1, 2, 3, 4, 5] rfl
            refine va_calli (va_runV (As := [.int hc, .int hf]) (rest := []) ⟨hx, hb, hml, hown, hts⟩ (c_X12_readLine l E h0 q i_taped i_sort i_what i_at i_worth i_faultKind i_faultPlace i_got i_worked i_deliveries i_isPlanned i_bestDone i_bestCost sz9 en9 a_tape a_boxes a_boxMany a_minCrew a_maxForce hc hf H.size (by omega) (by omega) hI_boxMany) (cwV 2 hts gX12_insurer_X12_readLine rfl rfl rfl hdV_X12_readLine ⟨Nat.le_of_ble_eq_true rfl, Nat.le_of_ble_eq_true rfl⟩) ⟨pcW_blind, va_recv hK hPc (ci := 12) (q0 := 0) rfl rfl, (pcW_pre hPc hkn hDc hst hS hFc)⟩ rfl rfl hl.1 rfl (lv_room (Nat.le_of_ble_eq_true rfl)) dX12_insurer_118 ⟨Nat.le_of_ble_eq_true rfl, Nat.le_of_ble_eq_true rfl⟩) hS (fun q _ h => hFc q h) hFc (fun r_29 u t H1 locs ht hvm hw_30 hB hz1 hk1 hS => ?_)
            obtain ⟨u_31, u_32, u_33, u_34, u_35, u_36, u_37, u_38, u_39, u_40, u_41, u_42⟩ := u
            obtain ⟨hf_43, hf_44, hP1, hD1⟩ := hB
            rw [ht] at hP1
            try dsimp only at hw_30
            obtain ⟨hP, hD⟩ := va_join (wr := []) (w1 := [(h0, .inr (12, mG q i_taped (nI sz9) u_31 u_32 u_33 (nI u_34) u_35 u_36 u_37 u_38 i_worked i_deliveries i_isPlanned i_bestDone i_bestCost)), (q 0, .inl (E.2.1 3, 800, .inl a_tape)), (q 12, .inl (E.2.1 0, 504, .inl u_39)), (q 13, .inl (E.2.1 0, 7, .inl u_40)), (q 14, .inl (E.2.1 0, 7, .inl u_41)), (q 15, .inl (E.2.1 0, 7, .inl u_42))]) hP hD [0, 1, 2, 3, 4, 5] [] rfl rfl (by decide) (by decide) hk1 hFc hP1 hD1
            generalize H1 = H at hP hS ⊢
            have hP : va_P E.1 vwCl [(h0, .inr (12, mG q i_taped (nI sz9) u_31 u_32 u_33 (nI u_34) u_35 u_36 u_37 u_38 i_worked i_deliveries i_isPlanned i_bestDone i_bestCost)), (q 0, .inl (E.2.1 3, 800, .inl a_tape)), (q 12, .inl (E.2.1 0, 504, .inl u_39)), (q 13, .inl (E.2.1 0, 7, .inl u_40)), (q 14, .inl (E.2.1 0, 7, .inl u_41)), (q 15, .inl (E.2.1 0, 7, .inl u_42))] H := hP
            have hD : va_D A [(h0, .inr (12, mG q i_taped (nI sz9) u_31 u_32 u_33 (nI u_34) u_35 u_36 u_37 u_38 i_worked i_deliveries i_isPlanned i_bestDone i_bestCost)), (q 0, .inl (E.2.1 3, 800, .inl a_tape)), (q 12, .inl (E.2.1 0, 504, .inl u_39)), (q 13, .inl (E.2.1 0, 7, .inl u_40)), (q 14, .inl (E.2.1 0, 7, .inl u_41)), (q 15, .inl (E.2.1 0, 7, .inl u_42))] := hD
            refine lv_if_ne (tgt := 126) hx hb dX12_insurer_121 (by decide) (fun c_45 => ?_) (fun c_45 => ?_)
            · refine lv_iload_n hx hb dX12_insurer_126 rfl (lv_at hl 4 rfl) ?_
              refine lv_if_ne (tgt := 135) hx hb dX12_insurer_127 (by decide) (fun c_46 => ?_) (fun c_46 => ?_)
              · refine lv_iconst (v := 1) hx hb dX12_insurer_135 (by decide) ?_
                refine lv_goto (tgt := 140) hx hb dX12_insurer_136 (by decide) ?_
                refine lv_istore_n (lv' := [(2, .int 1), (6, .int 0), (5, .int 0), (0, .ref h0), (1, .int (nI b)), (3, .int hf), (4, .int li_)]) hx hb dX12_insurer_140 rfl hl (by decide) rfl (fun ls hl => ?_)
                refine lv_iload_n hx hb dX12_insurer_141 rfl (lv_at hl 5 rfl) ?_
                refine lv_if_ne (tgt := 150) hx hb dX12_insurer_142 (by decide) (fun c_47 => ?_) (fun c_47 => ?_)
                · refine lv_iconst (v := 1) hx hb dX12_insurer_150 (by decide) ?_
                  refine lv_goto (tgt := 155) hx hb dX12_insurer_151 (by decide) ?_
                  refine lv_istore_n (lv' := [(3, .int 1), (2, .int 1), (6, .int 0), (5, .int 0), (0, .ref h0), (1, .int (nI b)), (4, .int li_)]) hx hb dX12_insurer_155 rfl hl (by decide) rfl (fun ls hl => ?_)
                  obtain ⟨x_48, ex_48⟩ : ∃ y : Int32, y = li_ + 1 := ⟨_, rfl⟩
                  refine lv_iinc (v := x_48) (lv' := [(4, .int x_48), (3, .int 1), (2, .int 1), (6, .int 0), (5, .int 0), (0, .ref h0), (1, .int (nI b))]) hx hb dX12_insurer_156 hl (k := 6) rfl (by rw [ex_48]; rfl) (by decide) rfl (fun ls hl => ?_)
                  refine lv_goto (tgt := 60) hx hb dX12_insurer_159 (by decide) ?_
                  exact ih 1 1 x_48 u_31 u_32 u_33 u_34 u_35 u_36 u_37 u_38 u_39 u_40 u_41 u_42 _ _ _ (by
                          have h9 := (hw_30.2).resolve_left c_45
                          rw [if_neg c_1] at hn0
                          rcases h9 with h9 | h9
                          · rw [if_pos h9]; omega
                          · split <;> omega) (by omega) hf_43 (hP.sub [0, 1, 2, 3, 4, 5] rfl) (hD.sub [0, 1, 2, 3, 4, 5] (by decide) rfl) hS (lv_sub hl [5, 6, 2, 1, 0] rfl)
                · refine lv_iload hx hb dX12_insurer_145 (lv_at hl 1 rfl) ?_
                  refine lv_if_eq (tgt := 154) hx hb dX12_insurer_147 (by decide) (fun _ => ?_) (fun c9 => absurd c9 (by decide))
                  refine lv_iconst (v := 0) hx hb dX12_insurer_154 (by decide) ?_
                  refine lv_istore_n (lv' := [(3, .int 0), (2, .int 1), (6, .int 0), (5, .int 0), (0, .ref h0), (1, .int (nI b)), (4, .int li_)]) hx hb dX12_insurer_155 rfl hl (by decide) rfl (fun ls hl => ?_)
                  obtain ⟨x_49, ex_49⟩ : ∃ y : Int32, y = li_ + 1 := ⟨_, rfl⟩
                  refine lv_iinc (v := x_49) (lv' := [(4, .int x_49), (3, .int 0), (2, .int 1), (6, .int 0), (5, .int 0), (0, .ref h0), (1, .int (nI b))]) hx hb dX12_insurer_156 hl (k := 6) rfl (by rw [ex_49]; rfl) (by decide) rfl (fun ls hl => ?_)
                  refine lv_goto (tgt := 60) hx hb dX12_insurer_159 (by decide) ?_
                  exact ih 1 0 x_49 u_31 u_32 u_33 u_34 u_35 u_36 u_37 u_38 u_39 u_40 u_41 u_42 _ _ _ (by
                          have h9 := (hw_30.2).resolve_left c_45
                          rw [if_neg c_1] at hn0
                          rcases h9 with h9 | h9
                          · rw [if_pos h9]; omega
                          · split <;> omega) (by omega) hf_43 (hP.sub [0, 1, 2, 3, 4, 5] rfl) (hD.sub [0, 1, 2, 3, 4, 5] (by decide) rfl) hS (lv_sub hl [5, 6, 2, 1, 0] rfl)
              · refine lv_iload hx hb dX12_insurer_130 (lv_at hl 1 rfl) ?_
                refine lv_if_eq (tgt := 139) hx hb dX12_insurer_132 (by decide) (fun _ => ?_) (fun c9 => absurd c9 (by decide))
                refine lv_iconst (v := 0) hx hb dX12_insurer_139 (by decide) ?_
                refine lv_istore_n (lv' := [(2, .int 0), (6, .int 0), (5, .int 0), (0, .ref h0), (1, .int (nI b)), (3, .int hf), (4, .int li_)]) hx hb dX12_insurer_140 rfl hl (by decide) rfl (fun ls hl => ?_)
                refine lv_iload_n hx hb dX12_insurer_141 rfl (lv_at hl 5 rfl) ?_
                refine lv_if_ne (tgt := 150) hx hb dX12_insurer_142 (by decide) (fun c_50 => ?_) (fun c_50 => ?_)
                · refine lv_iconst (v := 1) hx hb dX12_insurer_150 (by decide) ?_
                  refine lv_goto (tgt := 155) hx hb dX12_insurer_151 (by decide) ?_
                  refine lv_istore_n (lv' := [(3, .int 1), (2, .int 0), (6, .int 0), (5, .int 0), (0, .ref h0), (1, .int (nI b)), (4, .int li_)]) hx hb dX12_insurer_155 rfl hl (by decide) rfl (fun ls hl => ?_)
                  obtain ⟨x_51, ex_51⟩ : ∃ y : Int32, y = li_ + 1 := ⟨_, rfl⟩
                  refine lv_iinc (v := x_51) (lv' := [(4, .int x_51), (3, .int 1), (2, .int 0), (6, .int 0), (5, .int 0), (0, .ref h0), (1, .int (nI b))]) hx hb dX12_insurer_156 hl (k := 6) rfl (by rw [ex_51]; rfl) (by decide) rfl (fun ls hl => ?_)
                  refine lv_goto (tgt := 60) hx hb dX12_insurer_159 (by decide) ?_
                  exact ih 0 1 x_51 u_31 u_32 u_33 u_34 u_35 u_36 u_37 u_38 u_39 u_40 u_41 u_42 _ _ _ (by
                          have h9 := (hw_30.2).resolve_left c_45
                          rw [if_neg c_1] at hn0
                          rcases h9 with h9 | h9
                          · rw [if_pos h9]; omega
                          · split <;> omega) (by omega) hf_43 (hP.sub [0, 1, 2, 3, 4, 5] rfl) (hD.sub [0, 1, 2, 3, 4, 5] (by decide) rfl) hS (lv_sub hl [5, 6, 2, 1, 0] rfl)
                · refine lv_iload hx hb dX12_insurer_145 (lv_at hl 1 rfl) ?_
                  refine lv_if_eq (tgt := 154) hx hb dX12_insurer_147 (by decide) (fun _ => ?_) (fun c9 => absurd c9 (by decide))
                  refine lv_iconst (v := 0) hx hb dX12_insurer_154 (by decide) ?_
                  refine lv_istore_n (lv' := [(3, .int 0), (2, .int 0), (6, .int 0), (5, .int 0), (0, .ref h0), (1, .int (nI b)), (4, .int li_)]) hx hb dX12_insurer_155 rfl hl (by decide) rfl (fun ls hl => ?_)
                  obtain ⟨x_52, ex_52⟩ : ∃ y : Int32, y = li_ + 1 := ⟨_, rfl⟩
                  refine lv_iinc (v := x_52) (lv' := [(4, .int x_52), (3, .int 0), (2, .int 0), (6, .int 0), (5, .int 0), (0, .ref h0), (1, .int (nI b))]) hx hb dX12_insurer_156 hl (k := 6) rfl (by rw [ex_52]; rfl) (by decide) rfl (fun ls hl => ?_)
                  refine lv_goto (tgt := 60) hx hb dX12_insurer_159 (by decide) ?_
                  exact ih 0 0 x_52 u_31 u_32 u_33 u_34 u_35 u_36 u_37 u_38 u_39 u_40 u_41 u_42 _ _ _ (by
                          have h9 := (hw_30.2).resolve_left c_45
                          rw [if_neg c_1] at hn0
                          rcases h9 with h9 | h9
                          · rw [if_pos h9]; omega
                          · split <;> omega) (by omega) hf_43 (hP.sub [0, 1, 2, 3, 4, 5] rfl) (hD.sub [0, 1, 2, 3, 4, 5] (by decide) rfl) hS (lv_sub hl [5, 6, 2, 1, 0] rfl)
            · exact kk2 u_31 u_32 u_33 u_34 u_35 u_36 u_37 u_38 u_39 u_40 u_41 u_42 _ _ _ hf_43 (hP.sub [0, 1, 2, 3, 4, 5] rfl) (hD.sub [0, 1, 2, 3, 4, 5] (by decide) rfl) hS (lv_sub hl [2, 3] rfl)
          · refine lv_iconst (v := 1) hx hb dX12_insurer_108 (by decide) ?_
            refine lv_goto (tgt := 113) hx hb dX12_insurer_109 (by decide) ?_
            refine lv_istore (lv' := [(6, .int 1), (5, .int 0), (0, .ref h0), (1, .int (nI b)), (2, .int hc), (3, .int hf), (4, .int li_)]) hx hb dX12_insurer_113 hl (by decide) rfl (fun ls hl => ?_)
            refine lv_aload_n hx hb dX12_insurer_115 rfl (lv_at hl 2 rfl) ?_
            refine lv_iload_n hx hb dX12_insurer_116 rfl (lv_at hl 4 rfl) ?_
            refine lv_iload_n hx hb dX12_insurer_117 rfl (lv_at hl 5 rfl) ?_
            have hPc := hP.sub (ws' := [(h0, .inr (12, mG q i_taped (nI sz9) i_sort i_what i_at (nI en9) i_worth i_faultKind i_faultPlace i_got i_worked i_deliveries i_isPlanned i_bestDone i_bestCost)), (q 0, .inl (E.2.1 3, 800, .inl a_tape)), (q 12, .inl (E.2.1 0, 504, .inl a_boxes)), (q 13, .inl (E.2.1 0, 7, .inl a_boxMany)), (q 14, .inl (E.2.1 0, 7, .inl a_minCrew)), (q 15, .inl (E.2.1 0, 7, .inl a_maxForce))]) [0, 1, 2, 3, 4, 5] rfl
            have hDc := hD.sub (ws' := [(h0, .inr (12, mG q i_taped (nI sz9) i_sort i_what i_at (nI en9) i_worth i_faultKind i_faultPlace i_got i_worked i_deliveries i_isPlanned i_bestDone i_bestCost)), (q 0, .inl (E.2.1 3, 800, .inl a_tape)), (q 12, .inl (E.2.1 0, 504, .inl a_boxes)), (q 13, .inl (E.2.1 0, 7, .inl a_boxMany)), (q 14, .inl (E.2.1 0, 7, .inl a_minCrew)), (q 15, .inl (E.2.1 0, 7, .inl a_maxForce))]) [0, 1, 2, 3, 4, 5] (by decide) rfl
            have hFc := va_free (wc := [(h0, .inr (12, mG q i_taped (nI sz9) i_sort i_what i_at (nI en9) i_worth i_faultKind i_faultPlace i_got i_worked i_deliveries i_isPlanned i_bestDone i_bestCost)), (q 0, .inl (E.2.1 3, 800, .inl a_tape)), (q 12, .inl (E.2.1 0, 504, .inl a_boxes)), (q 13, .inl (E.2.1 0, 7, .inl a_boxMany)), (q 14, .inl (E.2.1 0, 7, .inl a_minCrew)), (q 15, .inl (E.2.1 0, 7, .inl a_maxForce))]) hD hS hA [0, 1, 2, 3, 4, 5] rfl
            refine va_calli (va_runV (As := [.int hc, .int hf]) (rest := []) ⟨hx, hb, hml, hown, hts⟩ (c_X12_readLine l E h0 q i_taped i_sort i_what i_at i_worth i_faultKind i_faultPlace i_got i_worked i_deliveries i_isPlanned i_bestDone i_bestCost sz9 en9 a_tape a_boxes a_boxMany a_minCrew a_maxForce hc hf H.size (by omega) (by omega) hI_boxMany) (cwV 2 hts gX12_insurer_X12_readLine rfl rfl rfl hdV_X12_readLine ⟨Nat.le_of_ble_eq_true rfl, Nat.le_of_ble_eq_true rfl⟩) ⟨pcW_blind, va_recv hK hPc (ci := 12) (q0 := 0) rfl rfl, (pcW_pre hPc hkn hDc hst hS hFc)⟩ rfl rfl hl.1 rfl (lv_room (Nat.le_of_ble_eq_true rfl)) dX12_insurer_118 ⟨Nat.le_of_ble_eq_true rfl, Nat.le_of_ble_eq_true rfl⟩) hS (fun q _ h => hFc q h) hFc (fun r_53 u t H1 locs ht hvm hw_54 hB hz1 hk1 hS => ?_)
            obtain ⟨u_55, u_56, u_57, u_58, u_59, u_60, u_61, u_62, u_63, u_64, u_65, u_66⟩ := u
            obtain ⟨hf_67, hf_68, hP1, hD1⟩ := hB
            rw [ht] at hP1
            try dsimp only at hw_54
            obtain ⟨hP, hD⟩ := va_join (wr := []) (w1 := [(h0, .inr (12, mG q i_taped (nI sz9) u_55 u_56 u_57 (nI u_58) u_59 u_60 u_61 u_62 i_worked i_deliveries i_isPlanned i_bestDone i_bestCost)), (q 0, .inl (E.2.1 3, 800, .inl a_tape)), (q 12, .inl (E.2.1 0, 504, .inl u_63)), (q 13, .inl (E.2.1 0, 7, .inl u_64)), (q 14, .inl (E.2.1 0, 7, .inl u_65)), (q 15, .inl (E.2.1 0, 7, .inl u_66))]) hP hD [0, 1, 2, 3, 4, 5] [] rfl rfl (by decide) (by decide) hk1 hFc hP1 hD1
            generalize H1 = H at hP hS ⊢
            have hP : va_P E.1 vwCl [(h0, .inr (12, mG q i_taped (nI sz9) u_55 u_56 u_57 (nI u_58) u_59 u_60 u_61 u_62 i_worked i_deliveries i_isPlanned i_bestDone i_bestCost)), (q 0, .inl (E.2.1 3, 800, .inl a_tape)), (q 12, .inl (E.2.1 0, 504, .inl u_63)), (q 13, .inl (E.2.1 0, 7, .inl u_64)), (q 14, .inl (E.2.1 0, 7, .inl u_65)), (q 15, .inl (E.2.1 0, 7, .inl u_66))] H := hP
            have hD : va_D A [(h0, .inr (12, mG q i_taped (nI sz9) u_55 u_56 u_57 (nI u_58) u_59 u_60 u_61 u_62 i_worked i_deliveries i_isPlanned i_bestDone i_bestCost)), (q 0, .inl (E.2.1 3, 800, .inl a_tape)), (q 12, .inl (E.2.1 0, 504, .inl u_63)), (q 13, .inl (E.2.1 0, 7, .inl u_64)), (q 14, .inl (E.2.1 0, 7, .inl u_65)), (q 15, .inl (E.2.1 0, 7, .inl u_66))] := hD
            refine lv_if_ne (tgt := 126) hx hb dX12_insurer_121 (by decide) (fun c_69 => ?_) (fun c_69 => ?_)
            · refine lv_iload_n hx hb dX12_insurer_126 rfl (lv_at hl 4 rfl) ?_
              refine lv_if_ne (tgt := 135) hx hb dX12_insurer_127 (by decide) (fun c_70 => ?_) (fun c_70 => ?_)
              · refine lv_iconst (v := 1) hx hb dX12_insurer_135 (by decide) ?_
                refine lv_goto (tgt := 140) hx hb dX12_insurer_136 (by decide) ?_
                refine lv_istore_n (lv' := [(2, .int 1), (6, .int 1), (5, .int 0), (0, .ref h0), (1, .int (nI b)), (3, .int hf), (4, .int li_)]) hx hb dX12_insurer_140 rfl hl (by decide) rfl (fun ls hl => ?_)
                refine lv_iload_n hx hb dX12_insurer_141 rfl (lv_at hl 5 rfl) ?_
                refine lv_if_ne (tgt := 150) hx hb dX12_insurer_142 (by decide) (fun c_71 => ?_) (fun c_71 => ?_)
                · refine lv_iconst (v := 1) hx hb dX12_insurer_150 (by decide) ?_
                  refine lv_goto (tgt := 155) hx hb dX12_insurer_151 (by decide) ?_
                  refine lv_istore_n (lv' := [(3, .int 1), (2, .int 1), (6, .int 1), (5, .int 0), (0, .ref h0), (1, .int (nI b)), (4, .int li_)]) hx hb dX12_insurer_155 rfl hl (by decide) rfl (fun ls hl => ?_)
                  obtain ⟨x_72, ex_72⟩ : ∃ y : Int32, y = li_ + 1 := ⟨_, rfl⟩
                  refine lv_iinc (v := x_72) (lv' := [(4, .int x_72), (3, .int 1), (2, .int 1), (6, .int 1), (5, .int 0), (0, .ref h0), (1, .int (nI b))]) hx hb dX12_insurer_156 hl (k := 6) rfl (by rw [ex_72]; rfl) (by decide) rfl (fun ls hl => ?_)
                  refine lv_goto (tgt := 60) hx hb dX12_insurer_159 (by decide) ?_
                  exact ih 1 1 x_72 u_55 u_56 u_57 u_58 u_59 u_60 u_61 u_62 u_63 u_64 u_65 u_66 _ _ _ (by
                          have h9 := (hw_54.2).resolve_left c_69
                          rw [if_neg c_1] at hn0
                          rcases h9 with h9 | h9
                          · rw [if_pos h9]; omega
                          · split <;> omega) (by omega) hf_67 (hP.sub [0, 1, 2, 3, 4, 5] rfl) (hD.sub [0, 1, 2, 3, 4, 5] (by decide) rfl) hS (lv_sub hl [5, 6, 2, 1, 0] rfl)
                · refine lv_iload hx hb dX12_insurer_145 (lv_at hl 1 rfl) ?_
                  refine lv_if_eq (tgt := 154) hx hb dX12_insurer_147 (by decide) (fun c9 => absurd c9 (by decide)) (fun _ => ?_)
                  refine lv_iconst (v := 1) hx hb dX12_insurer_150 (by decide) ?_
                  refine lv_goto (tgt := 155) hx hb dX12_insurer_151 (by decide) ?_
                  refine lv_istore_n (lv' := [(3, .int 1), (2, .int 1), (6, .int 1), (5, .int 0), (0, .ref h0), (1, .int (nI b)), (4, .int li_)]) hx hb dX12_insurer_155 rfl hl (by decide) rfl (fun ls hl => ?_)
                  obtain ⟨x_73, ex_73⟩ : ∃ y : Int32, y = li_ + 1 := ⟨_, rfl⟩
                  refine lv_iinc (v := x_73) (lv' := [(4, .int x_73), (3, .int 1), (2, .int 1), (6, .int 1), (5, .int 0), (0, .ref h0), (1, .int (nI b))]) hx hb dX12_insurer_156 hl (k := 6) rfl (by rw [ex_73]; rfl) (by decide) rfl (fun ls hl => ?_)
                  refine lv_goto (tgt := 60) hx hb dX12_insurer_159 (by decide) ?_
                  exact ih 1 1 x_73 u_55 u_56 u_57 u_58 u_59 u_60 u_61 u_62 u_63 u_64 u_65 u_66 _ _ _ (by
                          have h9 := (hw_54.2).resolve_left c_69
                          rw [if_neg c_1] at hn0
                          rcases h9 with h9 | h9
                          · rw [if_pos h9]; omega
                          · split <;> omega) (by omega) hf_67 (hP.sub [0, 1, 2, 3, 4, 5] rfl) (hD.sub [0, 1, 2, 3, 4, 5] (by decide) rfl) hS (lv_sub hl [5, 6, 2, 1, 0] rfl)
              · refine lv_iload hx hb dX12_insurer_130 (lv_at hl 1 rfl) ?_
                refine lv_if_eq (tgt := 139) hx hb dX12_insurer_132 (by decide) (fun _ => ?_) (fun c9 => absurd c9 (by decide))
                refine lv_iconst (v := 0) hx hb dX12_insurer_139 (by decide) ?_
                refine lv_istore_n (lv' := [(2, .int 0), (6, .int 1), (5, .int 0), (0, .ref h0), (1, .int (nI b)), (3, .int hf), (4, .int li_)]) hx hb dX12_insurer_140 rfl hl (by decide) rfl (fun ls hl => ?_)
                refine lv_iload_n hx hb dX12_insurer_141 rfl (lv_at hl 5 rfl) ?_
                refine lv_if_ne (tgt := 150) hx hb dX12_insurer_142 (by decide) (fun c_74 => ?_) (fun c_74 => ?_)
                · refine lv_iconst (v := 1) hx hb dX12_insurer_150 (by decide) ?_
                  refine lv_goto (tgt := 155) hx hb dX12_insurer_151 (by decide) ?_
                  refine lv_istore_n (lv' := [(3, .int 1), (2, .int 0), (6, .int 1), (5, .int 0), (0, .ref h0), (1, .int (nI b)), (4, .int li_)]) hx hb dX12_insurer_155 rfl hl (by decide) rfl (fun ls hl => ?_)
                  obtain ⟨x_75, ex_75⟩ : ∃ y : Int32, y = li_ + 1 := ⟨_, rfl⟩
                  refine lv_iinc (v := x_75) (lv' := [(4, .int x_75), (3, .int 1), (2, .int 0), (6, .int 1), (5, .int 0), (0, .ref h0), (1, .int (nI b))]) hx hb dX12_insurer_156 hl (k := 6) rfl (by rw [ex_75]; rfl) (by decide) rfl (fun ls hl => ?_)
                  refine lv_goto (tgt := 60) hx hb dX12_insurer_159 (by decide) ?_
                  exact ih 0 1 x_75 u_55 u_56 u_57 u_58 u_59 u_60 u_61 u_62 u_63 u_64 u_65 u_66 _ _ _ (by
                          have h9 := (hw_54.2).resolve_left c_69
                          rw [if_neg c_1] at hn0
                          rcases h9 with h9 | h9
                          · rw [if_pos h9]; omega
                          · split <;> omega) (by omega) hf_67 (hP.sub [0, 1, 2, 3, 4, 5] rfl) (hD.sub [0, 1, 2, 3, 4, 5] (by decide) rfl) hS (lv_sub hl [5, 6, 2, 1, 0] rfl)
                · refine lv_iload hx hb dX12_insurer_145 (lv_at hl 1 rfl) ?_
                  refine lv_if_eq (tgt := 154) hx hb dX12_insurer_147 (by decide) (fun c9 => absurd c9 (by decide)) (fun _ => ?_)
                  refine lv_iconst (v := 1) hx hb dX12_insurer_150 (by decide) ?_
                  refine lv_goto (tgt := 155) hx hb dX12_insurer_151 (by decide) ?_
                  refine lv_istore_n (lv' := [(3, .int 1), (2, .int 0), (6, .int 1), (5, .int 0), (0, .ref h0), (1, .int (nI b)), (4, .int li_)]) hx hb dX12_insurer_155 rfl hl (by decide) rfl (fun ls hl => ?_)
                  obtain ⟨x_76, ex_76⟩ : ∃ y : Int32, y = li_ + 1 := ⟨_, rfl⟩
                  refine lv_iinc (v := x_76) (lv' := [(4, .int x_76), (3, .int 1), (2, .int 0), (6, .int 1), (5, .int 0), (0, .ref h0), (1, .int (nI b))]) hx hb dX12_insurer_156 hl (k := 6) rfl (by rw [ex_76]; rfl) (by decide) rfl (fun ls hl => ?_)
                  refine lv_goto (tgt := 60) hx hb dX12_insurer_159 (by decide) ?_
                  exact ih 0 1 x_76 u_55 u_56 u_57 u_58 u_59 u_60 u_61 u_62 u_63 u_64 u_65 u_66 _ _ _ (by
                          have h9 := (hw_54.2).resolve_left c_69
                          rw [if_neg c_1] at hn0
                          rcases h9 with h9 | h9
                          · rw [if_pos h9]; omega
                          · split <;> omega) (by omega) hf_67 (hP.sub [0, 1, 2, 3, 4, 5] rfl) (hD.sub [0, 1, 2, 3, 4, 5] (by decide) rfl) hS (lv_sub hl [5, 6, 2, 1, 0] rfl)
            · exact kk2 u_55 u_56 u_57 u_58 u_59 u_60 u_61 u_62 u_63 u_64 u_65 u_66 _ _ _ hf_67 (hP.sub [0, 1, 2, 3, 4, 5] rfl) (hD.sub [0, 1, 2, 3, 4, 5] (by decide) rfl) hS (lv_sub hl [2, 3] rfl)
      · refine lv_aload_n hx hb dX12_insurer_76 rfl (lv_at hl 0 rfl) ?_
        refine va_get (D := E.1) (ci := 12) (v := .int i_what) (C := RX12) (T := TX12) (N := 59) hx hb hts inX12 hown hK hP 0 rfl rfl 4 (by decide) fl191 (fun _ h9 => h9) rfl dX12_insurer_77 ?_
        refine lv_bipush (v := 14) hx hb dX12_insurer_80 (by decide) ?_
        refine lv_icmp_ne (tgt := 89) hx hb dX12_insurer_82 (by decide) (fun c_77 => ?_) (fun c_77 => ?_)
        · refine lv_iconst (v := 0) hx hb dX12_insurer_89 (by decide) ?_
          refine lv_istore (lv' := [(5, .int 0), (0, .ref h0), (1, .int (nI b)), (2, .int hc), (3, .int hf), (4, .int li_)]) hx hb dX12_insurer_90 hl (by decide) rfl (fun ls hl => ?_)
          refine lv_aload_n hx hb dX12_insurer_92 rfl (lv_at hl 1 rfl) ?_
          refine va_get (D := E.1) (ci := 12) (v := .int i_sort) (C := RX12) (T := TX12) (N := 59) hx hb hts inX12 hown hK hP 0 rfl rfl 3 (by decide) fl180 (fun _ h9 => h9) rfl dX12_insurer_93 ?_
          refine lv_iconst (v := 1) hx hb dX12_insurer_96 (by decide) ?_
          refine lv_icmp_ne (tgt := 112) hx hb dX12_insurer_97 (by decide) (fun c_78 => ?_) (fun c_78 => ?_)
          · refine lv_iconst (v := 0) hx hb dX12_insurer_112 (by decide) ?_
            refine lv_istore (lv' := [(6, .int 0), (5, .int 0), (0, .ref h0), (1, .int (nI b)), (2, .int hc), (3, .int hf), (4, .int li_)]) hx hb dX12_insurer_113 hl (by decide) rfl (fun ls hl => ?_)
            refine lv_aload_n hx hb dX12_insurer_115 rfl (lv_at hl 2 rfl) ?_
            refine lv_iload_n hx hb dX12_insurer_116 rfl (lv_at hl 4 rfl) ?_
            refine lv_iload_n hx hb dX12_insurer_117 rfl (lv_at hl 5 rfl) ?_
            have hPc := hP.sub (ws' := [(h0, .inr (12, mG q i_taped (nI sz9) i_sort i_what i_at (nI en9) i_worth i_faultKind i_faultPlace i_got i_worked i_deliveries i_isPlanned i_bestDone i_bestCost)), (q 0, .inl (E.2.1 3, 800, .inl a_tape)), (q 12, .inl (E.2.1 0, 504, .inl a_boxes)), (q 13, .inl (E.2.1 0, 7, .inl a_boxMany)), (q 14, .inl (E.2.1 0, 7, .inl a_minCrew)), (q 15, .inl (E.2.1 0, 7, .inl a_maxForce))]) [0, 1, 2, 3, 4, 5] rfl
            have hDc := hD.sub (ws' := [(h0, .inr (12, mG q i_taped (nI sz9) i_sort i_what i_at (nI en9) i_worth i_faultKind i_faultPlace i_got i_worked i_deliveries i_isPlanned i_bestDone i_bestCost)), (q 0, .inl (E.2.1 3, 800, .inl a_tape)), (q 12, .inl (E.2.1 0, 504, .inl a_boxes)), (q 13, .inl (E.2.1 0, 7, .inl a_boxMany)), (q 14, .inl (E.2.1 0, 7, .inl a_minCrew)), (q 15, .inl (E.2.1 0, 7, .inl a_maxForce))]) [0, 1, 2, 3, 4, 5] (by decide) rfl
            have hFc := va_free (wc := [(h0, .inr (12, mG q i_taped (nI sz9) i_sort i_what i_at (nI en9) i_worth i_faultKind i_faultPlace i_got i_worked i_deliveries i_isPlanned i_bestDone i_bestCost)), (q 0, .inl (E.2.1 3, 800, .inl a_tape)), (q 12, .inl (E.2.1 0, 504, .inl a_boxes)), (q 13, .inl (E.2.1 0, 7, .inl a_boxMany)), (q 14, .inl (E.2.1 0, 7, .inl a_minCrew)), (q 15, .inl (E.2.1 0, 7, .inl a_maxForce))]) hD hS hA [0, 1, 2, 3, 4, 5] rfl
            refine va_calli (va_runV (As := [.int hc, .int hf]) (rest := []) ⟨hx, hb, hml, hown, hts⟩ (c_X12_readLine l E h0 q i_taped i_sort i_what i_at i_worth i_faultKind i_faultPlace i_got i_worked i_deliveries i_isPlanned i_bestDone i_bestCost sz9 en9 a_tape a_boxes a_boxMany a_minCrew a_maxForce hc hf H.size (by omega) (by omega) hI_boxMany) (cwV 2 hts gX12_insurer_X12_readLine rfl rfl rfl hdV_X12_readLine ⟨Nat.le_of_ble_eq_true rfl, Nat.le_of_ble_eq_true rfl⟩) ⟨pcW_blind, va_recv hK hPc (ci := 12) (q0 := 0) rfl rfl, (pcW_pre hPc hkn hDc hst hS hFc)⟩ rfl rfl hl.1 rfl (lv_room (Nat.le_of_ble_eq_true rfl)) dX12_insurer_118 ⟨Nat.le_of_ble_eq_true rfl, Nat.le_of_ble_eq_true rfl⟩) hS (fun q _ h => hFc q h) hFc (fun r_79 u t H1 locs ht hvm hw_80 hB hz1 hk1 hS => ?_)
            obtain ⟨u_81, u_82, u_83, u_84, u_85, u_86, u_87, u_88, u_89, u_90, u_91, u_92⟩ := u
            obtain ⟨hf_93, hf_94, hP1, hD1⟩ := hB
            rw [ht] at hP1
            try dsimp only at hw_80
            obtain ⟨hP, hD⟩ := va_join (wr := []) (w1 := [(h0, .inr (12, mG q i_taped (nI sz9) u_81 u_82 u_83 (nI u_84) u_85 u_86 u_87 u_88 i_worked i_deliveries i_isPlanned i_bestDone i_bestCost)), (q 0, .inl (E.2.1 3, 800, .inl a_tape)), (q 12, .inl (E.2.1 0, 504, .inl u_89)), (q 13, .inl (E.2.1 0, 7, .inl u_90)), (q 14, .inl (E.2.1 0, 7, .inl u_91)), (q 15, .inl (E.2.1 0, 7, .inl u_92))]) hP hD [0, 1, 2, 3, 4, 5] [] rfl rfl (by decide) (by decide) hk1 hFc hP1 hD1
            generalize H1 = H at hP hS ⊢
            have hP : va_P E.1 vwCl [(h0, .inr (12, mG q i_taped (nI sz9) u_81 u_82 u_83 (nI u_84) u_85 u_86 u_87 u_88 i_worked i_deliveries i_isPlanned i_bestDone i_bestCost)), (q 0, .inl (E.2.1 3, 800, .inl a_tape)), (q 12, .inl (E.2.1 0, 504, .inl u_89)), (q 13, .inl (E.2.1 0, 7, .inl u_90)), (q 14, .inl (E.2.1 0, 7, .inl u_91)), (q 15, .inl (E.2.1 0, 7, .inl u_92))] H := hP
            have hD : va_D A [(h0, .inr (12, mG q i_taped (nI sz9) u_81 u_82 u_83 (nI u_84) u_85 u_86 u_87 u_88 i_worked i_deliveries i_isPlanned i_bestDone i_bestCost)), (q 0, .inl (E.2.1 3, 800, .inl a_tape)), (q 12, .inl (E.2.1 0, 504, .inl u_89)), (q 13, .inl (E.2.1 0, 7, .inl u_90)), (q 14, .inl (E.2.1 0, 7, .inl u_91)), (q 15, .inl (E.2.1 0, 7, .inl u_92))] := hD
            refine lv_if_ne (tgt := 126) hx hb dX12_insurer_121 (by decide) (fun c_95 => ?_) (fun c_95 => ?_)
            · refine lv_iload_n hx hb dX12_insurer_126 rfl (lv_at hl 4 rfl) ?_
              refine lv_if_ne (tgt := 135) hx hb dX12_insurer_127 (by decide) (fun c_96 => ?_) (fun c_96 => ?_)
              · refine lv_iconst (v := 1) hx hb dX12_insurer_135 (by decide) ?_
                refine lv_goto (tgt := 140) hx hb dX12_insurer_136 (by decide) ?_
                refine lv_istore_n (lv' := [(2, .int 1), (6, .int 0), (5, .int 0), (0, .ref h0), (1, .int (nI b)), (3, .int hf), (4, .int li_)]) hx hb dX12_insurer_140 rfl hl (by decide) rfl (fun ls hl => ?_)
                refine lv_iload_n hx hb dX12_insurer_141 rfl (lv_at hl 5 rfl) ?_
                refine lv_if_ne (tgt := 150) hx hb dX12_insurer_142 (by decide) (fun c_97 => ?_) (fun c_97 => ?_)
                · refine lv_iconst (v := 1) hx hb dX12_insurer_150 (by decide) ?_
                  refine lv_goto (tgt := 155) hx hb dX12_insurer_151 (by decide) ?_
                  refine lv_istore_n (lv' := [(3, .int 1), (2, .int 1), (6, .int 0), (5, .int 0), (0, .ref h0), (1, .int (nI b)), (4, .int li_)]) hx hb dX12_insurer_155 rfl hl (by decide) rfl (fun ls hl => ?_)
                  obtain ⟨x_98, ex_98⟩ : ∃ y : Int32, y = li_ + 1 := ⟨_, rfl⟩
                  refine lv_iinc (v := x_98) (lv' := [(4, .int x_98), (3, .int 1), (2, .int 1), (6, .int 0), (5, .int 0), (0, .ref h0), (1, .int (nI b))]) hx hb dX12_insurer_156 hl (k := 6) rfl (by rw [ex_98]; rfl) (by decide) rfl (fun ls hl => ?_)
                  refine lv_goto (tgt := 60) hx hb dX12_insurer_159 (by decide) ?_
                  exact ih 1 1 x_98 u_81 u_82 u_83 u_84 u_85 u_86 u_87 u_88 u_89 u_90 u_91 u_92 _ _ _ (by
                          have h9 := (hw_80.2).resolve_left c_95
                          rw [if_neg c_1] at hn0
                          rcases h9 with h9 | h9
                          · rw [if_pos h9]; omega
                          · split <;> omega) (by omega) hf_93 (hP.sub [0, 1, 2, 3, 4, 5] rfl) (hD.sub [0, 1, 2, 3, 4, 5] (by decide) rfl) hS (lv_sub hl [5, 6, 2, 1, 0] rfl)
                · refine lv_iload hx hb dX12_insurer_145 (lv_at hl 1 rfl) ?_
                  refine lv_if_eq (tgt := 154) hx hb dX12_insurer_147 (by decide) (fun _ => ?_) (fun c9 => absurd c9 (by decide))
                  refine lv_iconst (v := 0) hx hb dX12_insurer_154 (by decide) ?_
                  refine lv_istore_n (lv' := [(3, .int 0), (2, .int 1), (6, .int 0), (5, .int 0), (0, .ref h0), (1, .int (nI b)), (4, .int li_)]) hx hb dX12_insurer_155 rfl hl (by decide) rfl (fun ls hl => ?_)
                  obtain ⟨x_99, ex_99⟩ : ∃ y : Int32, y = li_ + 1 := ⟨_, rfl⟩
                  refine lv_iinc (v := x_99) (lv' := [(4, .int x_99), (3, .int 0), (2, .int 1), (6, .int 0), (5, .int 0), (0, .ref h0), (1, .int (nI b))]) hx hb dX12_insurer_156 hl (k := 6) rfl (by rw [ex_99]; rfl) (by decide) rfl (fun ls hl => ?_)
                  refine lv_goto (tgt := 60) hx hb dX12_insurer_159 (by decide) ?_
                  exact ih 1 0 x_99 u_81 u_82 u_83 u_84 u_85 u_86 u_87 u_88 u_89 u_90 u_91 u_92 _ _ _ (by
                          have h9 := (hw_80.2).resolve_left c_95
                          rw [if_neg c_1] at hn0
                          rcases h9 with h9 | h9
                          · rw [if_pos h9]; omega
                          · split <;> omega) (by omega) hf_93 (hP.sub [0, 1, 2, 3, 4, 5] rfl) (hD.sub [0, 1, 2, 3, 4, 5] (by decide) rfl) hS (lv_sub hl [5, 6, 2, 1, 0] rfl)
              · refine lv_iload hx hb dX12_insurer_130 (lv_at hl 1 rfl) ?_
                refine lv_if_eq (tgt := 139) hx hb dX12_insurer_132 (by decide) (fun _ => ?_) (fun c9 => absurd c9 (by decide))
                refine lv_iconst (v := 0) hx hb dX12_insurer_139 (by decide) ?_
                refine lv_istore_n (lv' := [(2, .int 0), (6, .int 0), (5, .int 0), (0, .ref h0), (1, .int (nI b)), (3, .int hf), (4, .int li_)]) hx hb dX12_insurer_140 rfl hl (by decide) rfl (fun ls hl => ?_)
                refine lv_iload_n hx hb dX12_insurer_141 rfl (lv_at hl 5 rfl) ?_
                refine lv_if_ne (tgt := 150) hx hb dX12_insurer_142 (by decide) (fun c_100 => ?_) (fun c_100 => ?_)
                · refine lv_iconst (v := 1) hx hb dX12_insurer_150 (by decide) ?_
                  refine lv_goto (tgt := 155) hx hb dX12_insurer_151 (by decide) ?_
                  refine lv_istore_n (lv' := [(3, .int 1), (2, .int 0), (6, .int 0), (5, .int 0), (0, .ref h0), (1, .int (nI b)), (4, .int li_)]) hx hb dX12_insurer_155 rfl hl (by decide) rfl (fun ls hl => ?_)
                  obtain ⟨x_101, ex_101⟩ : ∃ y : Int32, y = li_ + 1 := ⟨_, rfl⟩
                  refine lv_iinc (v := x_101) (lv' := [(4, .int x_101), (3, .int 1), (2, .int 0), (6, .int 0), (5, .int 0), (0, .ref h0), (1, .int (nI b))]) hx hb dX12_insurer_156 hl (k := 6) rfl (by rw [ex_101]; rfl) (by decide) rfl (fun ls hl => ?_)
                  refine lv_goto (tgt := 60) hx hb dX12_insurer_159 (by decide) ?_
                  exact ih 0 1 x_101 u_81 u_82 u_83 u_84 u_85 u_86 u_87 u_88 u_89 u_90 u_91 u_92 _ _ _ (by
                          have h9 := (hw_80.2).resolve_left c_95
                          rw [if_neg c_1] at hn0
                          rcases h9 with h9 | h9
                          · rw [if_pos h9]; omega
                          · split <;> omega) (by omega) hf_93 (hP.sub [0, 1, 2, 3, 4, 5] rfl) (hD.sub [0, 1, 2, 3, 4, 5] (by decide) rfl) hS (lv_sub hl [5, 6, 2, 1, 0] rfl)
                · refine lv_iload hx hb dX12_insurer_145 (lv_at hl 1 rfl) ?_
                  refine lv_if_eq (tgt := 154) hx hb dX12_insurer_147 (by decide) (fun _ => ?_) (fun c9 => absurd c9 (by decide))
                  refine lv_iconst (v := 0) hx hb dX12_insurer_154 (by decide) ?_
                  refine lv_istore_n (lv' := [(3, .int 0), (2, .int 0), (6, .int 0), (5, .int 0), (0, .ref h0), (1, .int (nI b)), (4, .int li_)]) hx hb dX12_insurer_155 rfl hl (by decide) rfl (fun ls hl => ?_)
                  obtain ⟨x_102, ex_102⟩ : ∃ y : Int32, y = li_ + 1 := ⟨_, rfl⟩
                  refine lv_iinc (v := x_102) (lv' := [(4, .int x_102), (3, .int 0), (2, .int 0), (6, .int 0), (5, .int 0), (0, .ref h0), (1, .int (nI b))]) hx hb dX12_insurer_156 hl (k := 6) rfl (by rw [ex_102]; rfl) (by decide) rfl (fun ls hl => ?_)
                  refine lv_goto (tgt := 60) hx hb dX12_insurer_159 (by decide) ?_
                  exact ih 0 0 x_102 u_81 u_82 u_83 u_84 u_85 u_86 u_87 u_88 u_89 u_90 u_91 u_92 _ _ _ (by
                          have h9 := (hw_80.2).resolve_left c_95
                          rw [if_neg c_1] at hn0
                          rcases h9 with h9 | h9
                          · rw [if_pos h9]; omega
                          · split <;> omega) (by omega) hf_93 (hP.sub [0, 1, 2, 3, 4, 5] rfl) (hD.sub [0, 1, 2, 3, 4, 5] (by decide) rfl) hS (lv_sub hl [5, 6, 2, 1, 0] rfl)
            · exact kk2 u_81 u_82 u_83 u_84 u_85 u_86 u_87 u_88 u_89 u_90 u_91 u_92 _ _ _ hf_93 (hP.sub [0, 1, 2, 3, 4, 5] rfl) (hD.sub [0, 1, 2, 3, 4, 5] (by decide) rfl) hS (lv_sub hl [2, 3] rfl)
          · refine lv_aload_n hx hb dX12_insurer_100 rfl (lv_at hl 1 rfl) ?_
            refine va_get (D := E.1) (ci := 12) (v := .int i_what) (C := RX12) (T := TX12) (N := 59) hx hb hts inX12 hown hK hP 0 rfl rfl 4 (by decide) fl191 (fun _ h9 => h9) rfl dX12_insurer_101 ?_
            refine lv_iconst (v := 1) hx hb dX12_insurer_104 (by decide) ?_
            refine lv_icmp_ne (tgt := 112) hx hb dX12_insurer_105 (by decide) (fun c_103 => ?_) (fun c_103 => ?_)
            · refine lv_iconst (v := 0) hx hb dX12_insurer_112 (by decide) ?_
              refine lv_istore (lv' := [(6, .int 0), (5, .int 0), (0, .ref h0), (1, .int (nI b)), (2, .int hc), (3, .int hf), (4, .int li_)]) hx hb dX12_insurer_113 hl (by decide) rfl (fun ls hl => ?_)
              refine lv_aload_n hx hb dX12_insurer_115 rfl (lv_at hl 2 rfl) ?_
              refine lv_iload_n hx hb dX12_insurer_116 rfl (lv_at hl 4 rfl) ?_
              refine lv_iload_n hx hb dX12_insurer_117 rfl (lv_at hl 5 rfl) ?_
              have hPc := hP.sub (ws' := [(h0, .inr (12, mG q i_taped (nI sz9) i_sort i_what i_at (nI en9) i_worth i_faultKind i_faultPlace i_got i_worked i_deliveries i_isPlanned i_bestDone i_bestCost)), (q 0, .inl (E.2.1 3, 800, .inl a_tape)), (q 12, .inl (E.2.1 0, 504, .inl a_boxes)), (q 13, .inl (E.2.1 0, 7, .inl a_boxMany)), (q 14, .inl (E.2.1 0, 7, .inl a_minCrew)), (q 15, .inl (E.2.1 0, 7, .inl a_maxForce))]) [0, 1, 2, 3, 4, 5] rfl
              have hDc := hD.sub (ws' := [(h0, .inr (12, mG q i_taped (nI sz9) i_sort i_what i_at (nI en9) i_worth i_faultKind i_faultPlace i_got i_worked i_deliveries i_isPlanned i_bestDone i_bestCost)), (q 0, .inl (E.2.1 3, 800, .inl a_tape)), (q 12, .inl (E.2.1 0, 504, .inl a_boxes)), (q 13, .inl (E.2.1 0, 7, .inl a_boxMany)), (q 14, .inl (E.2.1 0, 7, .inl a_minCrew)), (q 15, .inl (E.2.1 0, 7, .inl a_maxForce))]) [0, 1, 2, 3, 4, 5] (by decide) rfl
              have hFc := va_free (wc := [(h0, .inr (12, mG q i_taped (nI sz9) i_sort i_what i_at (nI en9) i_worth i_faultKind i_faultPlace i_got i_worked i_deliveries i_isPlanned i_bestDone i_bestCost)), (q 0, .inl (E.2.1 3, 800, .inl a_tape)), (q 12, .inl (E.2.1 0, 504, .inl a_boxes)), (q 13, .inl (E.2.1 0, 7, .inl a_boxMany)), (q 14, .inl (E.2.1 0, 7, .inl a_minCrew)), (q 15, .inl (E.2.1 0, 7, .inl a_maxForce))]) hD hS hA [0, 1, 2, 3, 4, 5] rfl
              refine va_calli (va_runV (As := [.int hc, .int hf]) (rest := []) ⟨hx, hb, hml, hown, hts⟩ (c_X12_readLine l E h0 q i_taped i_sort i_what i_at i_worth i_faultKind i_faultPlace i_got i_worked i_deliveries i_isPlanned i_bestDone i_bestCost sz9 en9 a_tape a_boxes a_boxMany a_minCrew a_maxForce hc hf H.size (by omega) (by omega) hI_boxMany) (cwV 2 hts gX12_insurer_X12_readLine rfl rfl rfl hdV_X12_readLine ⟨Nat.le_of_ble_eq_true rfl, Nat.le_of_ble_eq_true rfl⟩) ⟨pcW_blind, va_recv hK hPc (ci := 12) (q0 := 0) rfl rfl, (pcW_pre hPc hkn hDc hst hS hFc)⟩ rfl rfl hl.1 rfl (lv_room (Nat.le_of_ble_eq_true rfl)) dX12_insurer_118 ⟨Nat.le_of_ble_eq_true rfl, Nat.le_of_ble_eq_true rfl⟩) hS (fun q _ h => hFc q h) hFc (fun r_104 u t H1 locs ht hvm hw_105 hB hz1 hk1 hS => ?_)
              obtain ⟨u_106, u_107, u_108, u_109, u_110, u_111, u_112, u_113, u_114, u_115, u_116, u_117⟩ := u
              obtain ⟨hf_118, hf_119, hP1, hD1⟩ := hB
              rw [ht] at hP1
              try dsimp only at hw_105
              obtain ⟨hP, hD⟩ := va_join (wr := []) (w1 := [(h0, .inr (12, mG q i_taped (nI sz9) u_106 u_107 u_108 (nI u_109) u_110 u_111 u_112 u_113 i_worked i_deliveries i_isPlanned i_bestDone i_bestCost)), (q 0, .inl (E.2.1 3, 800, .inl a_tape)), (q 12, .inl (E.2.1 0, 504, .inl u_114)), (q 13, .inl (E.2.1 0, 7, .inl u_115)), (q 14, .inl (E.2.1 0, 7, .inl u_116)), (q 15, .inl (E.2.1 0, 7, .inl u_117))]) hP hD [0, 1, 2, 3, 4, 5] [] rfl rfl (by decide) (by decide) hk1 hFc hP1 hD1
              generalize H1 = H at hP hS ⊢
              have hP : va_P E.1 vwCl [(h0, .inr (12, mG q i_taped (nI sz9) u_106 u_107 u_108 (nI u_109) u_110 u_111 u_112 u_113 i_worked i_deliveries i_isPlanned i_bestDone i_bestCost)), (q 0, .inl (E.2.1 3, 800, .inl a_tape)), (q 12, .inl (E.2.1 0, 504, .inl u_114)), (q 13, .inl (E.2.1 0, 7, .inl u_115)), (q 14, .inl (E.2.1 0, 7, .inl u_116)), (q 15, .inl (E.2.1 0, 7, .inl u_117))] H := hP
              have hD : va_D A [(h0, .inr (12, mG q i_taped (nI sz9) u_106 u_107 u_108 (nI u_109) u_110 u_111 u_112 u_113 i_worked i_deliveries i_isPlanned i_bestDone i_bestCost)), (q 0, .inl (E.2.1 3, 800, .inl a_tape)), (q 12, .inl (E.2.1 0, 504, .inl u_114)), (q 13, .inl (E.2.1 0, 7, .inl u_115)), (q 14, .inl (E.2.1 0, 7, .inl u_116)), (q 15, .inl (E.2.1 0, 7, .inl u_117))] := hD
              refine lv_if_ne (tgt := 126) hx hb dX12_insurer_121 (by decide) (fun c_120 => ?_) (fun c_120 => ?_)
              · refine lv_iload_n hx hb dX12_insurer_126 rfl (lv_at hl 4 rfl) ?_
                refine lv_if_ne (tgt := 135) hx hb dX12_insurer_127 (by decide) (fun c_121 => ?_) (fun c_121 => ?_)
                · refine lv_iconst (v := 1) hx hb dX12_insurer_135 (by decide) ?_
                  refine lv_goto (tgt := 140) hx hb dX12_insurer_136 (by decide) ?_
                  refine lv_istore_n (lv' := [(2, .int 1), (6, .int 0), (5, .int 0), (0, .ref h0), (1, .int (nI b)), (3, .int hf), (4, .int li_)]) hx hb dX12_insurer_140 rfl hl (by decide) rfl (fun ls hl => ?_)
                  refine lv_iload_n hx hb dX12_insurer_141 rfl (lv_at hl 5 rfl) ?_
                  refine lv_if_ne (tgt := 150) hx hb dX12_insurer_142 (by decide) (fun c_122 => ?_) (fun c_122 => ?_)
                  · refine lv_iconst (v := 1) hx hb dX12_insurer_150 (by decide) ?_
                    refine lv_goto (tgt := 155) hx hb dX12_insurer_151 (by decide) ?_
                    refine lv_istore_n (lv' := [(3, .int 1), (2, .int 1), (6, .int 0), (5, .int 0), (0, .ref h0), (1, .int (nI b)), (4, .int li_)]) hx hb dX12_insurer_155 rfl hl (by decide) rfl (fun ls hl => ?_)
                    obtain ⟨x_123, ex_123⟩ : ∃ y : Int32, y = li_ + 1 := ⟨_, rfl⟩
                    refine lv_iinc (v := x_123) (lv' := [(4, .int x_123), (3, .int 1), (2, .int 1), (6, .int 0), (5, .int 0), (0, .ref h0), (1, .int (nI b))]) hx hb dX12_insurer_156 hl (k := 6) rfl (by rw [ex_123]; rfl) (by decide) rfl (fun ls hl => ?_)
                    refine lv_goto (tgt := 60) hx hb dX12_insurer_159 (by decide) ?_
                    exact ih 1 1 x_123 u_106 u_107 u_108 u_109 u_110 u_111 u_112 u_113 u_114 u_115 u_116 u_117 _ _ _ (by
                            have h9 := (hw_105.2).resolve_left c_120
                            rw [if_neg c_1] at hn0
                            rcases h9 with h9 | h9
                            · rw [if_pos h9]; omega
                            · split <;> omega) (by omega) hf_118 (hP.sub [0, 1, 2, 3, 4, 5] rfl) (hD.sub [0, 1, 2, 3, 4, 5] (by decide) rfl) hS (lv_sub hl [5, 6, 2, 1, 0] rfl)
                  · refine lv_iload hx hb dX12_insurer_145 (lv_at hl 1 rfl) ?_
                    refine lv_if_eq (tgt := 154) hx hb dX12_insurer_147 (by decide) (fun _ => ?_) (fun c9 => absurd c9 (by decide))
                    refine lv_iconst (v := 0) hx hb dX12_insurer_154 (by decide) ?_
                    refine lv_istore_n (lv' := [(3, .int 0), (2, .int 1), (6, .int 0), (5, .int 0), (0, .ref h0), (1, .int (nI b)), (4, .int li_)]) hx hb dX12_insurer_155 rfl hl (by decide) rfl (fun ls hl => ?_)
                    obtain ⟨x_124, ex_124⟩ : ∃ y : Int32, y = li_ + 1 := ⟨_, rfl⟩
                    refine lv_iinc (v := x_124) (lv' := [(4, .int x_124), (3, .int 0), (2, .int 1), (6, .int 0), (5, .int 0), (0, .ref h0), (1, .int (nI b))]) hx hb dX12_insurer_156 hl (k := 6) rfl (by rw [ex_124]; rfl) (by decide) rfl (fun ls hl => ?_)
                    refine lv_goto (tgt := 60) hx hb dX12_insurer_159 (by decide) ?_
                    exact ih 1 0 x_124 u_106 u_107 u_108 u_109 u_110 u_111 u_112 u_113 u_114 u_115 u_116 u_117 _ _ _ (by
                            have h9 := (hw_105.2).resolve_left c_120
                            rw [if_neg c_1] at hn0
                            rcases h9 with h9 | h9
                            · rw [if_pos h9]; omega
                            · split <;> omega) (by omega) hf_118 (hP.sub [0, 1, 2, 3, 4, 5] rfl) (hD.sub [0, 1, 2, 3, 4, 5] (by decide) rfl) hS (lv_sub hl [5, 6, 2, 1, 0] rfl)
                · refine lv_iload hx hb dX12_insurer_130 (lv_at hl 1 rfl) ?_
                  refine lv_if_eq (tgt := 139) hx hb dX12_insurer_132 (by decide) (fun _ => ?_) (fun c9 => absurd c9 (by decide))
                  refine lv_iconst (v := 0) hx hb dX12_insurer_139 (by decide) ?_
                  refine lv_istore_n (lv' := [(2, .int 0), (6, .int 0), (5, .int 0), (0, .ref h0), (1, .int (nI b)), (3, .int hf), (4, .int li_)]) hx hb dX12_insurer_140 rfl hl (by decide) rfl (fun ls hl => ?_)
                  refine lv_iload_n hx hb dX12_insurer_141 rfl (lv_at hl 5 rfl) ?_
                  refine lv_if_ne (tgt := 150) hx hb dX12_insurer_142 (by decide) (fun c_125 => ?_) (fun c_125 => ?_)
                  · refine lv_iconst (v := 1) hx hb dX12_insurer_150 (by decide) ?_
                    refine lv_goto (tgt := 155) hx hb dX12_insurer_151 (by decide) ?_
                    refine lv_istore_n (lv' := [(3, .int 1), (2, .int 0), (6, .int 0), (5, .int 0), (0, .ref h0), (1, .int (nI b)), (4, .int li_)]) hx hb dX12_insurer_155 rfl hl (by decide) rfl (fun ls hl => ?_)
                    obtain ⟨x_126, ex_126⟩ : ∃ y : Int32, y = li_ + 1 := ⟨_, rfl⟩
                    refine lv_iinc (v := x_126) (lv' := [(4, .int x_126), (3, .int 1), (2, .int 0), (6, .int 0), (5, .int 0), (0, .ref h0), (1, .int (nI b))]) hx hb dX12_insurer_156 hl (k := 6) rfl (by rw [ex_126]; rfl) (by decide) rfl (fun ls hl => ?_)
                    refine lv_goto (tgt := 60) hx hb dX12_insurer_159 (by decide) ?_
                    exact ih 0 1 x_126 u_106 u_107 u_108 u_109 u_110 u_111 u_112 u_113 u_114 u_115 u_116 u_117 _ _ _ (by
                            have h9 := (hw_105.2).resolve_left c_120
                            rw [if_neg c_1] at hn0
                            rcases h9 with h9 | h9
                            · rw [if_pos h9]; omega
                            · split <;> omega) (by omega) hf_118 (hP.sub [0, 1, 2, 3, 4, 5] rfl) (hD.sub [0, 1, 2, 3, 4, 5] (by decide) rfl) hS (lv_sub hl [5, 6, 2, 1, 0] rfl)
                  · refine lv_iload hx hb dX12_insurer_145 (lv_at hl 1 rfl) ?_
                    refine lv_if_eq (tgt := 154) hx hb dX12_insurer_147 (by decide) (fun _ => ?_) (fun c9 => absurd c9 (by decide))
                    refine lv_iconst (v := 0) hx hb dX12_insurer_154 (by decide) ?_
                    refine lv_istore_n (lv' := [(3, .int 0), (2, .int 0), (6, .int 0), (5, .int 0), (0, .ref h0), (1, .int (nI b)), (4, .int li_)]) hx hb dX12_insurer_155 rfl hl (by decide) rfl (fun ls hl => ?_)
                    obtain ⟨x_127, ex_127⟩ : ∃ y : Int32, y = li_ + 1 := ⟨_, rfl⟩
                    refine lv_iinc (v := x_127) (lv' := [(4, .int x_127), (3, .int 0), (2, .int 0), (6, .int 0), (5, .int 0), (0, .ref h0), (1, .int (nI b))]) hx hb dX12_insurer_156 hl (k := 6) rfl (by rw [ex_127]; rfl) (by decide) rfl (fun ls hl => ?_)
                    refine lv_goto (tgt := 60) hx hb dX12_insurer_159 (by decide) ?_
                    exact ih 0 0 x_127 u_106 u_107 u_108 u_109 u_110 u_111 u_112 u_113 u_114 u_115 u_116 u_117 _ _ _ (by
                            have h9 := (hw_105.2).resolve_left c_120
                            rw [if_neg c_1] at hn0
                            rcases h9 with h9 | h9
                            · rw [if_pos h9]; omega
                            · split <;> omega) (by omega) hf_118 (hP.sub [0, 1, 2, 3, 4, 5] rfl) (hD.sub [0, 1, 2, 3, 4, 5] (by decide) rfl) hS (lv_sub hl [5, 6, 2, 1, 0] rfl)
              · exact kk2 u_106 u_107 u_108 u_109 u_110 u_111 u_112 u_113 u_114 u_115 u_116 u_117 _ _ _ hf_118 (hP.sub [0, 1, 2, 3, 4, 5] rfl) (hD.sub [0, 1, 2, 3, 4, 5] (by decide) rfl) hS (lv_sub hl [2, 3] rfl)
            · refine lv_iconst (v := 1) hx hb dX12_insurer_108 (by decide) ?_
              refine lv_goto (tgt := 113) hx hb dX12_insurer_109 (by decide) ?_
              refine lv_istore (lv' := [(6, .int 1), (5, .int 0), (0, .ref h0), (1, .int (nI b)), (2, .int hc), (3, .int hf), (4, .int li_)]) hx hb dX12_insurer_113 hl (by decide) rfl (fun ls hl => ?_)
              refine lv_aload_n hx hb dX12_insurer_115 rfl (lv_at hl 2 rfl) ?_
              refine lv_iload_n hx hb dX12_insurer_116 rfl (lv_at hl 4 rfl) ?_
              refine lv_iload_n hx hb dX12_insurer_117 rfl (lv_at hl 5 rfl) ?_
              have hPc := hP.sub (ws' := [(h0, .inr (12, mG q i_taped (nI sz9) i_sort i_what i_at (nI en9) i_worth i_faultKind i_faultPlace i_got i_worked i_deliveries i_isPlanned i_bestDone i_bestCost)), (q 0, .inl (E.2.1 3, 800, .inl a_tape)), (q 12, .inl (E.2.1 0, 504, .inl a_boxes)), (q 13, .inl (E.2.1 0, 7, .inl a_boxMany)), (q 14, .inl (E.2.1 0, 7, .inl a_minCrew)), (q 15, .inl (E.2.1 0, 7, .inl a_maxForce))]) [0, 1, 2, 3, 4, 5] rfl
              have hDc := hD.sub (ws' := [(h0, .inr (12, mG q i_taped (nI sz9) i_sort i_what i_at (nI en9) i_worth i_faultKind i_faultPlace i_got i_worked i_deliveries i_isPlanned i_bestDone i_bestCost)), (q 0, .inl (E.2.1 3, 800, .inl a_tape)), (q 12, .inl (E.2.1 0, 504, .inl a_boxes)), (q 13, .inl (E.2.1 0, 7, .inl a_boxMany)), (q 14, .inl (E.2.1 0, 7, .inl a_minCrew)), (q 15, .inl (E.2.1 0, 7, .inl a_maxForce))]) [0, 1, 2, 3, 4, 5] (by decide) rfl
              have hFc := va_free (wc := [(h0, .inr (12, mG q i_taped (nI sz9) i_sort i_what i_at (nI en9) i_worth i_faultKind i_faultPlace i_got i_worked i_deliveries i_isPlanned i_bestDone i_bestCost)), (q 0, .inl (E.2.1 3, 800, .inl a_tape)), (q 12, .inl (E.2.1 0, 504, .inl a_boxes)), (q 13, .inl (E.2.1 0, 7, .inl a_boxMany)), (q 14, .inl (E.2.1 0, 7, .inl a_minCrew)), (q 15, .inl (E.2.1 0, 7, .inl a_maxForce))]) hD hS hA [0, 1, 2, 3, 4, 5] rfl
              refine va_calli (va_runV (As := [.int hc, .int hf]) (rest := []) ⟨hx, hb, hml, hown, hts⟩ (c_X12_readLine l E h0 q i_taped i_sort i_what i_at i_worth i_faultKind i_faultPlace i_got i_worked i_deliveries i_isPlanned i_bestDone i_bestCost sz9 en9 a_tape a_boxes a_boxMany a_minCrew a_maxForce hc hf H.size (by omega) (by omega) hI_boxMany) (cwV 2 hts gX12_insurer_X12_readLine rfl rfl rfl hdV_X12_readLine ⟨Nat.le_of_ble_eq_true rfl, Nat.le_of_ble_eq_true rfl⟩) ⟨pcW_blind, va_recv hK hPc (ci := 12) (q0 := 0) rfl rfl, (pcW_pre hPc hkn hDc hst hS hFc)⟩ rfl rfl hl.1 rfl (lv_room (Nat.le_of_ble_eq_true rfl)) dX12_insurer_118 ⟨Nat.le_of_ble_eq_true rfl, Nat.le_of_ble_eq_true rfl⟩) hS (fun q _ h => hFc q h) hFc (fun r_128 u t H1 locs ht hvm hw_129 hB hz1 hk1 hS => ?_)
              obtain ⟨u_130, u_131, u_132, u_133, u_134, u_135, u_136, u_137, u_138, u_139, u_140, u_141⟩ := u
              obtain ⟨hf_142, hf_143, hP1, hD1⟩ := hB
              rw [ht] at hP1
              try dsimp only at hw_129
              obtain ⟨hP, hD⟩ := va_join (wr := []) (w1 := [(h0, .inr (12, mG q i_taped (nI sz9) u_130 u_131 u_132 (nI u_133) u_134 u_135 u_136 u_137 i_worked i_deliveries i_isPlanned i_bestDone i_bestCost)), (q 0, .inl (E.2.1 3, 800, .inl a_tape)), (q 12, .inl (E.2.1 0, 504, .inl u_138)), (q 13, .inl (E.2.1 0, 7, .inl u_139)), (q 14, .inl (E.2.1 0, 7, .inl u_140)), (q 15, .inl (E.2.1 0, 7, .inl u_141))]) hP hD [0, 1, 2, 3, 4, 5] [] rfl rfl (by decide) (by decide) hk1 hFc hP1 hD1
              generalize H1 = H at hP hS ⊢
              have hP : va_P E.1 vwCl [(h0, .inr (12, mG q i_taped (nI sz9) u_130 u_131 u_132 (nI u_133) u_134 u_135 u_136 u_137 i_worked i_deliveries i_isPlanned i_bestDone i_bestCost)), (q 0, .inl (E.2.1 3, 800, .inl a_tape)), (q 12, .inl (E.2.1 0, 504, .inl u_138)), (q 13, .inl (E.2.1 0, 7, .inl u_139)), (q 14, .inl (E.2.1 0, 7, .inl u_140)), (q 15, .inl (E.2.1 0, 7, .inl u_141))] H := hP
              have hD : va_D A [(h0, .inr (12, mG q i_taped (nI sz9) u_130 u_131 u_132 (nI u_133) u_134 u_135 u_136 u_137 i_worked i_deliveries i_isPlanned i_bestDone i_bestCost)), (q 0, .inl (E.2.1 3, 800, .inl a_tape)), (q 12, .inl (E.2.1 0, 504, .inl u_138)), (q 13, .inl (E.2.1 0, 7, .inl u_139)), (q 14, .inl (E.2.1 0, 7, .inl u_140)), (q 15, .inl (E.2.1 0, 7, .inl u_141))] := hD
              refine lv_if_ne (tgt := 126) hx hb dX12_insurer_121 (by decide) (fun c_144 => ?_) (fun c_144 => ?_)
              · refine lv_iload_n hx hb dX12_insurer_126 rfl (lv_at hl 4 rfl) ?_
                refine lv_if_ne (tgt := 135) hx hb dX12_insurer_127 (by decide) (fun c_145 => ?_) (fun c_145 => ?_)
                · refine lv_iconst (v := 1) hx hb dX12_insurer_135 (by decide) ?_
                  refine lv_goto (tgt := 140) hx hb dX12_insurer_136 (by decide) ?_
                  refine lv_istore_n (lv' := [(2, .int 1), (6, .int 1), (5, .int 0), (0, .ref h0), (1, .int (nI b)), (3, .int hf), (4, .int li_)]) hx hb dX12_insurer_140 rfl hl (by decide) rfl (fun ls hl => ?_)
                  refine lv_iload_n hx hb dX12_insurer_141 rfl (lv_at hl 5 rfl) ?_
                  refine lv_if_ne (tgt := 150) hx hb dX12_insurer_142 (by decide) (fun c_146 => ?_) (fun c_146 => ?_)
                  · refine lv_iconst (v := 1) hx hb dX12_insurer_150 (by decide) ?_
                    refine lv_goto (tgt := 155) hx hb dX12_insurer_151 (by decide) ?_
                    refine lv_istore_n (lv' := [(3, .int 1), (2, .int 1), (6, .int 1), (5, .int 0), (0, .ref h0), (1, .int (nI b)), (4, .int li_)]) hx hb dX12_insurer_155 rfl hl (by decide) rfl (fun ls hl => ?_)
                    obtain ⟨x_147, ex_147⟩ : ∃ y : Int32, y = li_ + 1 := ⟨_, rfl⟩
                    refine lv_iinc (v := x_147) (lv' := [(4, .int x_147), (3, .int 1), (2, .int 1), (6, .int 1), (5, .int 0), (0, .ref h0), (1, .int (nI b))]) hx hb dX12_insurer_156 hl (k := 6) rfl (by rw [ex_147]; rfl) (by decide) rfl (fun ls hl => ?_)
                    refine lv_goto (tgt := 60) hx hb dX12_insurer_159 (by decide) ?_
                    exact ih 1 1 x_147 u_130 u_131 u_132 u_133 u_134 u_135 u_136 u_137 u_138 u_139 u_140 u_141 _ _ _ (by
                            have h9 := (hw_129.2).resolve_left c_144
                            rw [if_neg c_1] at hn0
                            rcases h9 with h9 | h9
                            · rw [if_pos h9]; omega
                            · split <;> omega) (by omega) hf_142 (hP.sub [0, 1, 2, 3, 4, 5] rfl) (hD.sub [0, 1, 2, 3, 4, 5] (by decide) rfl) hS (lv_sub hl [5, 6, 2, 1, 0] rfl)
                  · refine lv_iload hx hb dX12_insurer_145 (lv_at hl 1 rfl) ?_
                    refine lv_if_eq (tgt := 154) hx hb dX12_insurer_147 (by decide) (fun c9 => absurd c9 (by decide)) (fun _ => ?_)
                    refine lv_iconst (v := 1) hx hb dX12_insurer_150 (by decide) ?_
                    refine lv_goto (tgt := 155) hx hb dX12_insurer_151 (by decide) ?_
                    refine lv_istore_n (lv' := [(3, .int 1), (2, .int 1), (6, .int 1), (5, .int 0), (0, .ref h0), (1, .int (nI b)), (4, .int li_)]) hx hb dX12_insurer_155 rfl hl (by decide) rfl (fun ls hl => ?_)
                    obtain ⟨x_148, ex_148⟩ : ∃ y : Int32, y = li_ + 1 := ⟨_, rfl⟩
                    refine lv_iinc (v := x_148) (lv' := [(4, .int x_148), (3, .int 1), (2, .int 1), (6, .int 1), (5, .int 0), (0, .ref h0), (1, .int (nI b))]) hx hb dX12_insurer_156 hl (k := 6) rfl (by rw [ex_148]; rfl) (by decide) rfl (fun ls hl => ?_)
                    refine lv_goto (tgt := 60) hx hb dX12_insurer_159 (by decide) ?_
                    exact ih 1 1 x_148 u_130 u_131 u_132 u_133 u_134 u_135 u_136 u_137 u_138 u_139 u_140 u_141 _ _ _ (by
                            have h9 := (hw_129.2).resolve_left c_144
                            rw [if_neg c_1] at hn0
                            rcases h9 with h9 | h9
                            · rw [if_pos h9]; omega
                            · split <;> omega) (by omega) hf_142 (hP.sub [0, 1, 2, 3, 4, 5] rfl) (hD.sub [0, 1, 2, 3, 4, 5] (by decide) rfl) hS (lv_sub hl [5, 6, 2, 1, 0] rfl)
                · refine lv_iload hx hb dX12_insurer_130 (lv_at hl 1 rfl) ?_
                  refine lv_if_eq (tgt := 139) hx hb dX12_insurer_132 (by decide) (fun _ => ?_) (fun c9 => absurd c9 (by decide))
                  refine lv_iconst (v := 0) hx hb dX12_insurer_139 (by decide) ?_
                  refine lv_istore_n (lv' := [(2, .int 0), (6, .int 1), (5, .int 0), (0, .ref h0), (1, .int (nI b)), (3, .int hf), (4, .int li_)]) hx hb dX12_insurer_140 rfl hl (by decide) rfl (fun ls hl => ?_)
                  refine lv_iload_n hx hb dX12_insurer_141 rfl (lv_at hl 5 rfl) ?_
                  refine lv_if_ne (tgt := 150) hx hb dX12_insurer_142 (by decide) (fun c_149 => ?_) (fun c_149 => ?_)
                  · refine lv_iconst (v := 1) hx hb dX12_insurer_150 (by decide) ?_
                    refine lv_goto (tgt := 155) hx hb dX12_insurer_151 (by decide) ?_
                    refine lv_istore_n (lv' := [(3, .int 1), (2, .int 0), (6, .int 1), (5, .int 0), (0, .ref h0), (1, .int (nI b)), (4, .int li_)]) hx hb dX12_insurer_155 rfl hl (by decide) rfl (fun ls hl => ?_)
                    obtain ⟨x_150, ex_150⟩ : ∃ y : Int32, y = li_ + 1 := ⟨_, rfl⟩
                    refine lv_iinc (v := x_150) (lv' := [(4, .int x_150), (3, .int 1), (2, .int 0), (6, .int 1), (5, .int 0), (0, .ref h0), (1, .int (nI b))]) hx hb dX12_insurer_156 hl (k := 6) rfl (by rw [ex_150]; rfl) (by decide) rfl (fun ls hl => ?_)
                    refine lv_goto (tgt := 60) hx hb dX12_insurer_159 (by decide) ?_
                    exact ih 0 1 x_150 u_130 u_131 u_132 u_133 u_134 u_135 u_136 u_137 u_138 u_139 u_140 u_141 _ _ _ (by
                            have h9 := (hw_129.2).resolve_left c_144
                            rw [if_neg c_1] at hn0
                            rcases h9 with h9 | h9
                            · rw [if_pos h9]; omega
                            · split <;> omega) (by omega) hf_142 (hP.sub [0, 1, 2, 3, 4, 5] rfl) (hD.sub [0, 1, 2, 3, 4, 5] (by decide) rfl) hS (lv_sub hl [5, 6, 2, 1, 0] rfl)
                  · refine lv_iload hx hb dX12_insurer_145 (lv_at hl 1 rfl) ?_
                    refine lv_if_eq (tgt := 154) hx hb dX12_insurer_147 (by decide) (fun c9 => absurd c9 (by decide)) (fun _ => ?_)
                    refine lv_iconst (v := 1) hx hb dX12_insurer_150 (by decide) ?_
                    refine lv_goto (tgt := 155) hx hb dX12_insurer_151 (by decide) ?_
                    refine lv_istore_n (lv' := [(3, .int 1), (2, .int 0), (6, .int 1), (5, .int 0), (0, .ref h0), (1, .int (nI b)), (4, .int li_)]) hx hb dX12_insurer_155 rfl hl (by decide) rfl (fun ls hl => ?_)
                    obtain ⟨x_151, ex_151⟩ : ∃ y : Int32, y = li_ + 1 := ⟨_, rfl⟩
                    refine lv_iinc (v := x_151) (lv' := [(4, .int x_151), (3, .int 1), (2, .int 0), (6, .int 1), (5, .int 0), (0, .ref h0), (1, .int (nI b))]) hx hb dX12_insurer_156 hl (k := 6) rfl (by rw [ex_151]; rfl) (by decide) rfl (fun ls hl => ?_)
                    refine lv_goto (tgt := 60) hx hb dX12_insurer_159 (by decide) ?_
                    exact ih 0 1 x_151 u_130 u_131 u_132 u_133 u_134 u_135 u_136 u_137 u_138 u_139 u_140 u_141 _ _ _ (by
                            have h9 := (hw_129.2).resolve_left c_144
                            rw [if_neg c_1] at hn0
                            rcases h9 with h9 | h9
                            · rw [if_pos h9]; omega
                            · split <;> omega) (by omega) hf_142 (hP.sub [0, 1, 2, 3, 4, 5] rfl) (hD.sub [0, 1, 2, 3, 4, 5] (by decide) rfl) hS (lv_sub hl [5, 6, 2, 1, 0] rfl)
              · exact kk2 u_130 u_131 u_132 u_133 u_134 u_135 u_136 u_137 u_138 u_139 u_140 u_141 _ _ _ hf_142 (hP.sub [0, 1, 2, 3, 4, 5] rfl) (hD.sub [0, 1, 2, 3, 4, 5] (by decide) rfl) hS (lv_sub hl [2, 3] rfl)
        · refine lv_iconst (v := 1) hx hb dX12_insurer_85 (by decide) ?_
          refine lv_goto (tgt := 90) hx hb dX12_insurer_86 (by decide) ?_
          refine lv_istore (lv' := [(5, .int 1), (0, .ref h0), (1, .int (nI b)), (2, .int hc), (3, .int hf), (4, .int li_)]) hx hb dX12_insurer_90 hl (by decide) rfl (fun ls hl => ?_)
          refine lv_aload_n hx hb dX12_insurer_92 rfl (lv_at hl 1 rfl) ?_
          refine va_get (D := E.1) (ci := 12) (v := .int i_sort) (C := RX12) (T := TX12) (N := 59) hx hb hts inX12 hown hK hP 0 rfl rfl 3 (by decide) fl180 (fun _ h9 => h9) rfl dX12_insurer_93 ?_
          refine lv_iconst (v := 1) hx hb dX12_insurer_96 (by decide) ?_
          refine lv_icmp_ne (tgt := 112) hx hb dX12_insurer_97 (by decide) (fun c_152 => ?_) (fun c_152 => ?_)
          · refine lv_iconst (v := 0) hx hb dX12_insurer_112 (by decide) ?_
            refine lv_istore (lv' := [(6, .int 0), (5, .int 1), (0, .ref h0), (1, .int (nI b)), (2, .int hc), (3, .int hf), (4, .int li_)]) hx hb dX12_insurer_113 hl (by decide) rfl (fun ls hl => ?_)
            refine lv_aload_n hx hb dX12_insurer_115 rfl (lv_at hl 2 rfl) ?_
            refine lv_iload_n hx hb dX12_insurer_116 rfl (lv_at hl 4 rfl) ?_
            refine lv_iload_n hx hb dX12_insurer_117 rfl (lv_at hl 5 rfl) ?_
            have hPc := hP.sub (ws' := [(h0, .inr (12, mG q i_taped (nI sz9) i_sort i_what i_at (nI en9) i_worth i_faultKind i_faultPlace i_got i_worked i_deliveries i_isPlanned i_bestDone i_bestCost)), (q 0, .inl (E.2.1 3, 800, .inl a_tape)), (q 12, .inl (E.2.1 0, 504, .inl a_boxes)), (q 13, .inl (E.2.1 0, 7, .inl a_boxMany)), (q 14, .inl (E.2.1 0, 7, .inl a_minCrew)), (q 15, .inl (E.2.1 0, 7, .inl a_maxForce))]) [0, 1, 2, 3, 4, 5] rfl
            have hDc := hD.sub (ws' := [(h0, .inr (12, mG q i_taped (nI sz9) i_sort i_what i_at (nI en9) i_worth i_faultKind i_faultPlace i_got i_worked i_deliveries i_isPlanned i_bestDone i_bestCost)), (q 0, .inl (E.2.1 3, 800, .inl a_tape)), (q 12, .inl (E.2.1 0, 504, .inl a_boxes)), (q 13, .inl (E.2.1 0, 7, .inl a_boxMany)), (q 14, .inl (E.2.1 0, 7, .inl a_minCrew)), (q 15, .inl (E.2.1 0, 7, .inl a_maxForce))]) [0, 1, 2, 3, 4, 5] (by decide) rfl
            have hFc := va_free (wc := [(h0, .inr (12, mG q i_taped (nI sz9) i_sort i_what i_at (nI en9) i_worth i_faultKind i_faultPlace i_got i_worked i_deliveries i_isPlanned i_bestDone i_bestCost)), (q 0, .inl (E.2.1 3, 800, .inl a_tape)), (q 12, .inl (E.2.1 0, 504, .inl a_boxes)), (q 13, .inl (E.2.1 0, 7, .inl a_boxMany)), (q 14, .inl (E.2.1 0, 7, .inl a_minCrew)), (q 15, .inl (E.2.1 0, 7, .inl a_maxForce))]) hD hS hA [0, 1, 2, 3, 4, 5] rfl
            refine va_calli (va_runV (As := [.int hc, .int hf]) (rest := []) ⟨hx, hb, hml, hown, hts⟩ (c_X12_readLine l E h0 q i_taped i_sort i_what i_at i_worth i_faultKind i_faultPlace i_got i_worked i_deliveries i_isPlanned i_bestDone i_bestCost sz9 en9 a_tape a_boxes a_boxMany a_minCrew a_maxForce hc hf H.size (by omega) (by omega) hI_boxMany) (cwV 2 hts gX12_insurer_X12_readLine rfl rfl rfl hdV_X12_readLine ⟨Nat.le_of_ble_eq_true rfl, Nat.le_of_ble_eq_true rfl⟩) ⟨pcW_blind, va_recv hK hPc (ci := 12) (q0 := 0) rfl rfl, (pcW_pre hPc hkn hDc hst hS hFc)⟩ rfl rfl hl.1 rfl (lv_room (Nat.le_of_ble_eq_true rfl)) dX12_insurer_118 ⟨Nat.le_of_ble_eq_true rfl, Nat.le_of_ble_eq_true rfl⟩) hS (fun q _ h => hFc q h) hFc (fun r_153 u t H1 locs ht hvm hw_154 hB hz1 hk1 hS => ?_)
            obtain ⟨u_155, u_156, u_157, u_158, u_159, u_160, u_161, u_162, u_163, u_164, u_165, u_166⟩ := u
            obtain ⟨hf_167, hf_168, hP1, hD1⟩ := hB
            rw [ht] at hP1
            try dsimp only at hw_154
            obtain ⟨hP, hD⟩ := va_join (wr := []) (w1 := [(h0, .inr (12, mG q i_taped (nI sz9) u_155 u_156 u_157 (nI u_158) u_159 u_160 u_161 u_162 i_worked i_deliveries i_isPlanned i_bestDone i_bestCost)), (q 0, .inl (E.2.1 3, 800, .inl a_tape)), (q 12, .inl (E.2.1 0, 504, .inl u_163)), (q 13, .inl (E.2.1 0, 7, .inl u_164)), (q 14, .inl (E.2.1 0, 7, .inl u_165)), (q 15, .inl (E.2.1 0, 7, .inl u_166))]) hP hD [0, 1, 2, 3, 4, 5] [] rfl rfl (by decide) (by decide) hk1 hFc hP1 hD1
            generalize H1 = H at hP hS ⊢
            have hP : va_P E.1 vwCl [(h0, .inr (12, mG q i_taped (nI sz9) u_155 u_156 u_157 (nI u_158) u_159 u_160 u_161 u_162 i_worked i_deliveries i_isPlanned i_bestDone i_bestCost)), (q 0, .inl (E.2.1 3, 800, .inl a_tape)), (q 12, .inl (E.2.1 0, 504, .inl u_163)), (q 13, .inl (E.2.1 0, 7, .inl u_164)), (q 14, .inl (E.2.1 0, 7, .inl u_165)), (q 15, .inl (E.2.1 0, 7, .inl u_166))] H := hP
            have hD : va_D A [(h0, .inr (12, mG q i_taped (nI sz9) u_155 u_156 u_157 (nI u_158) u_159 u_160 u_161 u_162 i_worked i_deliveries i_isPlanned i_bestDone i_bestCost)), (q 0, .inl (E.2.1 3, 800, .inl a_tape)), (q 12, .inl (E.2.1 0, 504, .inl u_163)), (q 13, .inl (E.2.1 0, 7, .inl u_164)), (q 14, .inl (E.2.1 0, 7, .inl u_165)), (q 15, .inl (E.2.1 0, 7, .inl u_166))] := hD
            refine lv_if_ne (tgt := 126) hx hb dX12_insurer_121 (by decide) (fun c_169 => ?_) (fun c_169 => ?_)
            · refine lv_iload_n hx hb dX12_insurer_126 rfl (lv_at hl 4 rfl) ?_
              refine lv_if_ne (tgt := 135) hx hb dX12_insurer_127 (by decide) (fun c_170 => ?_) (fun c_170 => ?_)
              · refine lv_iconst (v := 1) hx hb dX12_insurer_135 (by decide) ?_
                refine lv_goto (tgt := 140) hx hb dX12_insurer_136 (by decide) ?_
                refine lv_istore_n (lv' := [(2, .int 1), (6, .int 0), (5, .int 1), (0, .ref h0), (1, .int (nI b)), (3, .int hf), (4, .int li_)]) hx hb dX12_insurer_140 rfl hl (by decide) rfl (fun ls hl => ?_)
                refine lv_iload_n hx hb dX12_insurer_141 rfl (lv_at hl 5 rfl) ?_
                refine lv_if_ne (tgt := 150) hx hb dX12_insurer_142 (by decide) (fun c_171 => ?_) (fun c_171 => ?_)
                · refine lv_iconst (v := 1) hx hb dX12_insurer_150 (by decide) ?_
                  refine lv_goto (tgt := 155) hx hb dX12_insurer_151 (by decide) ?_
                  refine lv_istore_n (lv' := [(3, .int 1), (2, .int 1), (6, .int 0), (5, .int 1), (0, .ref h0), (1, .int (nI b)), (4, .int li_)]) hx hb dX12_insurer_155 rfl hl (by decide) rfl (fun ls hl => ?_)
                  obtain ⟨x_172, ex_172⟩ : ∃ y : Int32, y = li_ + 1 := ⟨_, rfl⟩
                  refine lv_iinc (v := x_172) (lv' := [(4, .int x_172), (3, .int 1), (2, .int 1), (6, .int 0), (5, .int 1), (0, .ref h0), (1, .int (nI b))]) hx hb dX12_insurer_156 hl (k := 6) rfl (by rw [ex_172]; rfl) (by decide) rfl (fun ls hl => ?_)
                  refine lv_goto (tgt := 60) hx hb dX12_insurer_159 (by decide) ?_
                  exact ih 1 1 x_172 u_155 u_156 u_157 u_158 u_159 u_160 u_161 u_162 u_163 u_164 u_165 u_166 _ _ _ (by
                          have h9 := (hw_154.2).resolve_left c_169
                          rw [if_neg c_1] at hn0
                          rcases h9 with h9 | h9
                          · rw [if_pos h9]; omega
                          · split <;> omega) (by omega) hf_167 (hP.sub [0, 1, 2, 3, 4, 5] rfl) (hD.sub [0, 1, 2, 3, 4, 5] (by decide) rfl) hS (lv_sub hl [5, 6, 2, 1, 0] rfl)
                · refine lv_iload hx hb dX12_insurer_145 (lv_at hl 1 rfl) ?_
                  refine lv_if_eq (tgt := 154) hx hb dX12_insurer_147 (by decide) (fun _ => ?_) (fun c9 => absurd c9 (by decide))
                  refine lv_iconst (v := 0) hx hb dX12_insurer_154 (by decide) ?_
                  refine lv_istore_n (lv' := [(3, .int 0), (2, .int 1), (6, .int 0), (5, .int 1), (0, .ref h0), (1, .int (nI b)), (4, .int li_)]) hx hb dX12_insurer_155 rfl hl (by decide) rfl (fun ls hl => ?_)
                  obtain ⟨x_173, ex_173⟩ : ∃ y : Int32, y = li_ + 1 := ⟨_, rfl⟩
                  refine lv_iinc (v := x_173) (lv' := [(4, .int x_173), (3, .int 0), (2, .int 1), (6, .int 0), (5, .int 1), (0, .ref h0), (1, .int (nI b))]) hx hb dX12_insurer_156 hl (k := 6) rfl (by rw [ex_173]; rfl) (by decide) rfl (fun ls hl => ?_)
                  refine lv_goto (tgt := 60) hx hb dX12_insurer_159 (by decide) ?_
                  exact ih 1 0 x_173 u_155 u_156 u_157 u_158 u_159 u_160 u_161 u_162 u_163 u_164 u_165 u_166 _ _ _ (by
                          have h9 := (hw_154.2).resolve_left c_169
                          rw [if_neg c_1] at hn0
                          rcases h9 with h9 | h9
                          · rw [if_pos h9]; omega
                          · split <;> omega) (by omega) hf_167 (hP.sub [0, 1, 2, 3, 4, 5] rfl) (hD.sub [0, 1, 2, 3, 4, 5] (by decide) rfl) hS (lv_sub hl [5, 6, 2, 1, 0] rfl)
              · refine lv_iload hx hb dX12_insurer_130 (lv_at hl 1 rfl) ?_
                refine lv_if_eq (tgt := 139) hx hb dX12_insurer_132 (by decide) (fun c9 => absurd c9 (by decide)) (fun _ => ?_)
                refine lv_iconst (v := 1) hx hb dX12_insurer_135 (by decide) ?_
                refine lv_goto (tgt := 140) hx hb dX12_insurer_136 (by decide) ?_
                refine lv_istore_n (lv' := [(2, .int 1), (6, .int 0), (5, .int 1), (0, .ref h0), (1, .int (nI b)), (3, .int hf), (4, .int li_)]) hx hb dX12_insurer_140 rfl hl (by decide) rfl (fun ls hl => ?_)
                refine lv_iload_n hx hb dX12_insurer_141 rfl (lv_at hl 5 rfl) ?_
                refine lv_if_ne (tgt := 150) hx hb dX12_insurer_142 (by decide) (fun c_174 => ?_) (fun c_174 => ?_)
                · refine lv_iconst (v := 1) hx hb dX12_insurer_150 (by decide) ?_
                  refine lv_goto (tgt := 155) hx hb dX12_insurer_151 (by decide) ?_
                  refine lv_istore_n (lv' := [(3, .int 1), (2, .int 1), (6, .int 0), (5, .int 1), (0, .ref h0), (1, .int (nI b)), (4, .int li_)]) hx hb dX12_insurer_155 rfl hl (by decide) rfl (fun ls hl => ?_)
                  obtain ⟨x_175, ex_175⟩ : ∃ y : Int32, y = li_ + 1 := ⟨_, rfl⟩
                  refine lv_iinc (v := x_175) (lv' := [(4, .int x_175), (3, .int 1), (2, .int 1), (6, .int 0), (5, .int 1), (0, .ref h0), (1, .int (nI b))]) hx hb dX12_insurer_156 hl (k := 6) rfl (by rw [ex_175]; rfl) (by decide) rfl (fun ls hl => ?_)
                  refine lv_goto (tgt := 60) hx hb dX12_insurer_159 (by decide) ?_
                  exact ih 1 1 x_175 u_155 u_156 u_157 u_158 u_159 u_160 u_161 u_162 u_163 u_164 u_165 u_166 _ _ _ (by
                          have h9 := (hw_154.2).resolve_left c_169
                          rw [if_neg c_1] at hn0
                          rcases h9 with h9 | h9
                          · rw [if_pos h9]; omega
                          · split <;> omega) (by omega) hf_167 (hP.sub [0, 1, 2, 3, 4, 5] rfl) (hD.sub [0, 1, 2, 3, 4, 5] (by decide) rfl) hS (lv_sub hl [5, 6, 2, 1, 0] rfl)
                · refine lv_iload hx hb dX12_insurer_145 (lv_at hl 1 rfl) ?_
                  refine lv_if_eq (tgt := 154) hx hb dX12_insurer_147 (by decide) (fun _ => ?_) (fun c9 => absurd c9 (by decide))
                  refine lv_iconst (v := 0) hx hb dX12_insurer_154 (by decide) ?_
                  refine lv_istore_n (lv' := [(3, .int 0), (2, .int 1), (6, .int 0), (5, .int 1), (0, .ref h0), (1, .int (nI b)), (4, .int li_)]) hx hb dX12_insurer_155 rfl hl (by decide) rfl (fun ls hl => ?_)
                  obtain ⟨x_176, ex_176⟩ : ∃ y : Int32, y = li_ + 1 := ⟨_, rfl⟩
                  refine lv_iinc (v := x_176) (lv' := [(4, .int x_176), (3, .int 0), (2, .int 1), (6, .int 0), (5, .int 1), (0, .ref h0), (1, .int (nI b))]) hx hb dX12_insurer_156 hl (k := 6) rfl (by rw [ex_176]; rfl) (by decide) rfl (fun ls hl => ?_)
                  refine lv_goto (tgt := 60) hx hb dX12_insurer_159 (by decide) ?_
                  exact ih 1 0 x_176 u_155 u_156 u_157 u_158 u_159 u_160 u_161 u_162 u_163 u_164 u_165 u_166 _ _ _ (by
                          have h9 := (hw_154.2).resolve_left c_169
                          rw [if_neg c_1] at hn0
                          rcases h9 with h9 | h9
                          · rw [if_pos h9]; omega
                          · split <;> omega) (by omega) hf_167 (hP.sub [0, 1, 2, 3, 4, 5] rfl) (hD.sub [0, 1, 2, 3, 4, 5] (by decide) rfl) hS (lv_sub hl [5, 6, 2, 1, 0] rfl)
            · exact kk2 u_155 u_156 u_157 u_158 u_159 u_160 u_161 u_162 u_163 u_164 u_165 u_166 _ _ _ hf_167 (hP.sub [0, 1, 2, 3, 4, 5] rfl) (hD.sub [0, 1, 2, 3, 4, 5] (by decide) rfl) hS (lv_sub hl [2, 3] rfl)
          · refine lv_aload_n hx hb dX12_insurer_100 rfl (lv_at hl 1 rfl) ?_
            refine va_get (D := E.1) (ci := 12) (v := .int i_what) (C := RX12) (T := TX12) (N := 59) hx hb hts inX12 hown hK hP 0 rfl rfl 4 (by decide) fl191 (fun _ h9 => h9) rfl dX12_insurer_101 ?_
            refine lv_iconst (v := 1) hx hb dX12_insurer_104 (by decide) ?_
            refine lv_icmp_ne (tgt := 112) hx hb dX12_insurer_105 (by decide) (fun c_177 => ?_) (fun c_177 => ?_)
            · refine lv_iconst (v := 0) hx hb dX12_insurer_112 (by decide) ?_
              refine lv_istore (lv' := [(6, .int 0), (5, .int 1), (0, .ref h0), (1, .int (nI b)), (2, .int hc), (3, .int hf), (4, .int li_)]) hx hb dX12_insurer_113 hl (by decide) rfl (fun ls hl => ?_)
              refine lv_aload_n hx hb dX12_insurer_115 rfl (lv_at hl 2 rfl) ?_
              refine lv_iload_n hx hb dX12_insurer_116 rfl (lv_at hl 4 rfl) ?_
              refine lv_iload_n hx hb dX12_insurer_117 rfl (lv_at hl 5 rfl) ?_
              have hPc := hP.sub (ws' := [(h0, .inr (12, mG q i_taped (nI sz9) i_sort i_what i_at (nI en9) i_worth i_faultKind i_faultPlace i_got i_worked i_deliveries i_isPlanned i_bestDone i_bestCost)), (q 0, .inl (E.2.1 3, 800, .inl a_tape)), (q 12, .inl (E.2.1 0, 504, .inl a_boxes)), (q 13, .inl (E.2.1 0, 7, .inl a_boxMany)), (q 14, .inl (E.2.1 0, 7, .inl a_minCrew)), (q 15, .inl (E.2.1 0, 7, .inl a_maxForce))]) [0, 1, 2, 3, 4, 5] rfl
              have hDc := hD.sub (ws' := [(h0, .inr (12, mG q i_taped (nI sz9) i_sort i_what i_at (nI en9) i_worth i_faultKind i_faultPlace i_got i_worked i_deliveries i_isPlanned i_bestDone i_bestCost)), (q 0, .inl (E.2.1 3, 800, .inl a_tape)), (q 12, .inl (E.2.1 0, 504, .inl a_boxes)), (q 13, .inl (E.2.1 0, 7, .inl a_boxMany)), (q 14, .inl (E.2.1 0, 7, .inl a_minCrew)), (q 15, .inl (E.2.1 0, 7, .inl a_maxForce))]) [0, 1, 2, 3, 4, 5] (by decide) rfl
              have hFc := va_free (wc := [(h0, .inr (12, mG q i_taped (nI sz9) i_sort i_what i_at (nI en9) i_worth i_faultKind i_faultPlace i_got i_worked i_deliveries i_isPlanned i_bestDone i_bestCost)), (q 0, .inl (E.2.1 3, 800, .inl a_tape)), (q 12, .inl (E.2.1 0, 504, .inl a_boxes)), (q 13, .inl (E.2.1 0, 7, .inl a_boxMany)), (q 14, .inl (E.2.1 0, 7, .inl a_minCrew)), (q 15, .inl (E.2.1 0, 7, .inl a_maxForce))]) hD hS hA [0, 1, 2, 3, 4, 5] rfl
              refine va_calli (va_runV (As := [.int hc, .int hf]) (rest := []) ⟨hx, hb, hml, hown, hts⟩ (c_X12_readLine l E h0 q i_taped i_sort i_what i_at i_worth i_faultKind i_faultPlace i_got i_worked i_deliveries i_isPlanned i_bestDone i_bestCost sz9 en9 a_tape a_boxes a_boxMany a_minCrew a_maxForce hc hf H.size (by omega) (by omega) hI_boxMany) (cwV 2 hts gX12_insurer_X12_readLine rfl rfl rfl hdV_X12_readLine ⟨Nat.le_of_ble_eq_true rfl, Nat.le_of_ble_eq_true rfl⟩) ⟨pcW_blind, va_recv hK hPc (ci := 12) (q0 := 0) rfl rfl, (pcW_pre hPc hkn hDc hst hS hFc)⟩ rfl rfl hl.1 rfl (lv_room (Nat.le_of_ble_eq_true rfl)) dX12_insurer_118 ⟨Nat.le_of_ble_eq_true rfl, Nat.le_of_ble_eq_true rfl⟩) hS (fun q _ h => hFc q h) hFc (fun r_178 u t H1 locs ht hvm hw_179 hB hz1 hk1 hS => ?_)
              obtain ⟨u_180, u_181, u_182, u_183, u_184, u_185, u_186, u_187, u_188, u_189, u_190, u_191⟩ := u
              obtain ⟨hf_192, hf_193, hP1, hD1⟩ := hB
              rw [ht] at hP1
              try dsimp only at hw_179
              obtain ⟨hP, hD⟩ := va_join (wr := []) (w1 := [(h0, .inr (12, mG q i_taped (nI sz9) u_180 u_181 u_182 (nI u_183) u_184 u_185 u_186 u_187 i_worked i_deliveries i_isPlanned i_bestDone i_bestCost)), (q 0, .inl (E.2.1 3, 800, .inl a_tape)), (q 12, .inl (E.2.1 0, 504, .inl u_188)), (q 13, .inl (E.2.1 0, 7, .inl u_189)), (q 14, .inl (E.2.1 0, 7, .inl u_190)), (q 15, .inl (E.2.1 0, 7, .inl u_191))]) hP hD [0, 1, 2, 3, 4, 5] [] rfl rfl (by decide) (by decide) hk1 hFc hP1 hD1
              generalize H1 = H at hP hS ⊢
              have hP : va_P E.1 vwCl [(h0, .inr (12, mG q i_taped (nI sz9) u_180 u_181 u_182 (nI u_183) u_184 u_185 u_186 u_187 i_worked i_deliveries i_isPlanned i_bestDone i_bestCost)), (q 0, .inl (E.2.1 3, 800, .inl a_tape)), (q 12, .inl (E.2.1 0, 504, .inl u_188)), (q 13, .inl (E.2.1 0, 7, .inl u_189)), (q 14, .inl (E.2.1 0, 7, .inl u_190)), (q 15, .inl (E.2.1 0, 7, .inl u_191))] H := hP
              have hD : va_D A [(h0, .inr (12, mG q i_taped (nI sz9) u_180 u_181 u_182 (nI u_183) u_184 u_185 u_186 u_187 i_worked i_deliveries i_isPlanned i_bestDone i_bestCost)), (q 0, .inl (E.2.1 3, 800, .inl a_tape)), (q 12, .inl (E.2.1 0, 504, .inl u_188)), (q 13, .inl (E.2.1 0, 7, .inl u_189)), (q 14, .inl (E.2.1 0, 7, .inl u_190)), (q 15, .inl (E.2.1 0, 7, .inl u_191))] := hD
              refine lv_if_ne (tgt := 126) hx hb dX12_insurer_121 (by decide) (fun c_194 => ?_) (fun c_194 => ?_)
              · refine lv_iload_n hx hb dX12_insurer_126 rfl (lv_at hl 4 rfl) ?_
                refine lv_if_ne (tgt := 135) hx hb dX12_insurer_127 (by decide) (fun c_195 => ?_) (fun c_195 => ?_)
                · refine lv_iconst (v := 1) hx hb dX12_insurer_135 (by decide) ?_
                  refine lv_goto (tgt := 140) hx hb dX12_insurer_136 (by decide) ?_
                  refine lv_istore_n (lv' := [(2, .int 1), (6, .int 0), (5, .int 1), (0, .ref h0), (1, .int (nI b)), (3, .int hf), (4, .int li_)]) hx hb dX12_insurer_140 rfl hl (by decide) rfl (fun ls hl => ?_)
                  refine lv_iload_n hx hb dX12_insurer_141 rfl (lv_at hl 5 rfl) ?_
                  refine lv_if_ne (tgt := 150) hx hb dX12_insurer_142 (by decide) (fun c_196 => ?_) (fun c_196 => ?_)
                  · refine lv_iconst (v := 1) hx hb dX12_insurer_150 (by decide) ?_
                    refine lv_goto (tgt := 155) hx hb dX12_insurer_151 (by decide) ?_
                    refine lv_istore_n (lv' := [(3, .int 1), (2, .int 1), (6, .int 0), (5, .int 1), (0, .ref h0), (1, .int (nI b)), (4, .int li_)]) hx hb dX12_insurer_155 rfl hl (by decide) rfl (fun ls hl => ?_)
                    obtain ⟨x_197, ex_197⟩ : ∃ y : Int32, y = li_ + 1 := ⟨_, rfl⟩
                    refine lv_iinc (v := x_197) (lv' := [(4, .int x_197), (3, .int 1), (2, .int 1), (6, .int 0), (5, .int 1), (0, .ref h0), (1, .int (nI b))]) hx hb dX12_insurer_156 hl (k := 6) rfl (by rw [ex_197]; rfl) (by decide) rfl (fun ls hl => ?_)
                    refine lv_goto (tgt := 60) hx hb dX12_insurer_159 (by decide) ?_
                    exact ih 1 1 x_197 u_180 u_181 u_182 u_183 u_184 u_185 u_186 u_187 u_188 u_189 u_190 u_191 _ _ _ (by
                            have h9 := (hw_179.2).resolve_left c_194
                            rw [if_neg c_1] at hn0
                            rcases h9 with h9 | h9
                            · rw [if_pos h9]; omega
                            · split <;> omega) (by omega) hf_192 (hP.sub [0, 1, 2, 3, 4, 5] rfl) (hD.sub [0, 1, 2, 3, 4, 5] (by decide) rfl) hS (lv_sub hl [5, 6, 2, 1, 0] rfl)
                  · refine lv_iload hx hb dX12_insurer_145 (lv_at hl 1 rfl) ?_
                    refine lv_if_eq (tgt := 154) hx hb dX12_insurer_147 (by decide) (fun _ => ?_) (fun c9 => absurd c9 (by decide))
                    refine lv_iconst (v := 0) hx hb dX12_insurer_154 (by decide) ?_
                    refine lv_istore_n (lv' := [(3, .int 0), (2, .int 1), (6, .int 0), (5, .int 1), (0, .ref h0), (1, .int (nI b)), (4, .int li_)]) hx hb dX12_insurer_155 rfl hl (by decide) rfl (fun ls hl => ?_)
                    obtain ⟨x_198, ex_198⟩ : ∃ y : Int32, y = li_ + 1 := ⟨_, rfl⟩
                    refine lv_iinc (v := x_198) (lv' := [(4, .int x_198), (3, .int 0), (2, .int 1), (6, .int 0), (5, .int 1), (0, .ref h0), (1, .int (nI b))]) hx hb dX12_insurer_156 hl (k := 6) rfl (by rw [ex_198]; rfl) (by decide) rfl (fun ls hl => ?_)
                    refine lv_goto (tgt := 60) hx hb dX12_insurer_159 (by decide) ?_
                    exact ih 1 0 x_198 u_180 u_181 u_182 u_183 u_184 u_185 u_186 u_187 u_188 u_189 u_190 u_191 _ _ _ (by
                            have h9 := (hw_179.2).resolve_left c_194
                            rw [if_neg c_1] at hn0
                            rcases h9 with h9 | h9
                            · rw [if_pos h9]; omega
                            · split <;> omega) (by omega) hf_192 (hP.sub [0, 1, 2, 3, 4, 5] rfl) (hD.sub [0, 1, 2, 3, 4, 5] (by decide) rfl) hS (lv_sub hl [5, 6, 2, 1, 0] rfl)
                · refine lv_iload hx hb dX12_insurer_130 (lv_at hl 1 rfl) ?_
                  refine lv_if_eq (tgt := 139) hx hb dX12_insurer_132 (by decide) (fun c9 => absurd c9 (by decide)) (fun _ => ?_)
                  refine lv_iconst (v := 1) hx hb dX12_insurer_135 (by decide) ?_
                  refine lv_goto (tgt := 140) hx hb dX12_insurer_136 (by decide) ?_
                  refine lv_istore_n (lv' := [(2, .int 1), (6, .int 0), (5, .int 1), (0, .ref h0), (1, .int (nI b)), (3, .int hf), (4, .int li_)]) hx hb dX12_insurer_140 rfl hl (by decide) rfl (fun ls hl => ?_)
                  refine lv_iload_n hx hb dX12_insurer_141 rfl (lv_at hl 5 rfl) ?_
                  refine lv_if_ne (tgt := 150) hx hb dX12_insurer_142 (by decide) (fun c_199 => ?_) (fun c_199 => ?_)
                  · refine lv_iconst (v := 1) hx hb dX12_insurer_150 (by decide) ?_
                    refine lv_goto (tgt := 155) hx hb dX12_insurer_151 (by decide) ?_
                    refine lv_istore_n (lv' := [(3, .int 1), (2, .int 1), (6, .int 0), (5, .int 1), (0, .ref h0), (1, .int (nI b)), (4, .int li_)]) hx hb dX12_insurer_155 rfl hl (by decide) rfl (fun ls hl => ?_)
                    obtain ⟨x_200, ex_200⟩ : ∃ y : Int32, y = li_ + 1 := ⟨_, rfl⟩
                    refine lv_iinc (v := x_200) (lv' := [(4, .int x_200), (3, .int 1), (2, .int 1), (6, .int 0), (5, .int 1), (0, .ref h0), (1, .int (nI b))]) hx hb dX12_insurer_156 hl (k := 6) rfl (by rw [ex_200]; rfl) (by decide) rfl (fun ls hl => ?_)
                    refine lv_goto (tgt := 60) hx hb dX12_insurer_159 (by decide) ?_
                    exact ih 1 1 x_200 u_180 u_181 u_182 u_183 u_184 u_185 u_186 u_187 u_188 u_189 u_190 u_191 _ _ _ (by
                            have h9 := (hw_179.2).resolve_left c_194
                            rw [if_neg c_1] at hn0
                            rcases h9 with h9 | h9
                            · rw [if_pos h9]; omega
                            · split <;> omega) (by omega) hf_192 (hP.sub [0, 1, 2, 3, 4, 5] rfl) (hD.sub [0, 1, 2, 3, 4, 5] (by decide) rfl) hS (lv_sub hl [5, 6, 2, 1, 0] rfl)
                  · refine lv_iload hx hb dX12_insurer_145 (lv_at hl 1 rfl) ?_
                    refine lv_if_eq (tgt := 154) hx hb dX12_insurer_147 (by decide) (fun _ => ?_) (fun c9 => absurd c9 (by decide))
                    refine lv_iconst (v := 0) hx hb dX12_insurer_154 (by decide) ?_
                    refine lv_istore_n (lv' := [(3, .int 0), (2, .int 1), (6, .int 0), (5, .int 1), (0, .ref h0), (1, .int (nI b)), (4, .int li_)]) hx hb dX12_insurer_155 rfl hl (by decide) rfl (fun ls hl => ?_)
                    obtain ⟨x_201, ex_201⟩ : ∃ y : Int32, y = li_ + 1 := ⟨_, rfl⟩
                    refine lv_iinc (v := x_201) (lv' := [(4, .int x_201), (3, .int 0), (2, .int 1), (6, .int 0), (5, .int 1), (0, .ref h0), (1, .int (nI b))]) hx hb dX12_insurer_156 hl (k := 6) rfl (by rw [ex_201]; rfl) (by decide) rfl (fun ls hl => ?_)
                    refine lv_goto (tgt := 60) hx hb dX12_insurer_159 (by decide) ?_
                    exact ih 1 0 x_201 u_180 u_181 u_182 u_183 u_184 u_185 u_186 u_187 u_188 u_189 u_190 u_191 _ _ _ (by
                            have h9 := (hw_179.2).resolve_left c_194
                            rw [if_neg c_1] at hn0
                            rcases h9 with h9 | h9
                            · rw [if_pos h9]; omega
                            · split <;> omega) (by omega) hf_192 (hP.sub [0, 1, 2, 3, 4, 5] rfl) (hD.sub [0, 1, 2, 3, 4, 5] (by decide) rfl) hS (lv_sub hl [5, 6, 2, 1, 0] rfl)
              · exact kk2 u_180 u_181 u_182 u_183 u_184 u_185 u_186 u_187 u_188 u_189 u_190 u_191 _ _ _ hf_192 (hP.sub [0, 1, 2, 3, 4, 5] rfl) (hD.sub [0, 1, 2, 3, 4, 5] (by decide) rfl) hS (lv_sub hl [2, 3] rfl)
            · refine lv_iconst (v := 1) hx hb dX12_insurer_108 (by decide) ?_
              refine lv_goto (tgt := 113) hx hb dX12_insurer_109 (by decide) ?_
              refine lv_istore (lv' := [(6, .int 1), (5, .int 1), (0, .ref h0), (1, .int (nI b)), (2, .int hc), (3, .int hf), (4, .int li_)]) hx hb dX12_insurer_113 hl (by decide) rfl (fun ls hl => ?_)
              refine lv_aload_n hx hb dX12_insurer_115 rfl (lv_at hl 2 rfl) ?_
              refine lv_iload_n hx hb dX12_insurer_116 rfl (lv_at hl 4 rfl) ?_
              refine lv_iload_n hx hb dX12_insurer_117 rfl (lv_at hl 5 rfl) ?_
              have hPc := hP.sub (ws' := [(h0, .inr (12, mG q i_taped (nI sz9) i_sort i_what i_at (nI en9) i_worth i_faultKind i_faultPlace i_got i_worked i_deliveries i_isPlanned i_bestDone i_bestCost)), (q 0, .inl (E.2.1 3, 800, .inl a_tape)), (q 12, .inl (E.2.1 0, 504, .inl a_boxes)), (q 13, .inl (E.2.1 0, 7, .inl a_boxMany)), (q 14, .inl (E.2.1 0, 7, .inl a_minCrew)), (q 15, .inl (E.2.1 0, 7, .inl a_maxForce))]) [0, 1, 2, 3, 4, 5] rfl
              have hDc := hD.sub (ws' := [(h0, .inr (12, mG q i_taped (nI sz9) i_sort i_what i_at (nI en9) i_worth i_faultKind i_faultPlace i_got i_worked i_deliveries i_isPlanned i_bestDone i_bestCost)), (q 0, .inl (E.2.1 3, 800, .inl a_tape)), (q 12, .inl (E.2.1 0, 504, .inl a_boxes)), (q 13, .inl (E.2.1 0, 7, .inl a_boxMany)), (q 14, .inl (E.2.1 0, 7, .inl a_minCrew)), (q 15, .inl (E.2.1 0, 7, .inl a_maxForce))]) [0, 1, 2, 3, 4, 5] (by decide) rfl
              have hFc := va_free (wc := [(h0, .inr (12, mG q i_taped (nI sz9) i_sort i_what i_at (nI en9) i_worth i_faultKind i_faultPlace i_got i_worked i_deliveries i_isPlanned i_bestDone i_bestCost)), (q 0, .inl (E.2.1 3, 800, .inl a_tape)), (q 12, .inl (E.2.1 0, 504, .inl a_boxes)), (q 13, .inl (E.2.1 0, 7, .inl a_boxMany)), (q 14, .inl (E.2.1 0, 7, .inl a_minCrew)), (q 15, .inl (E.2.1 0, 7, .inl a_maxForce))]) hD hS hA [0, 1, 2, 3, 4, 5] rfl
              refine va_calli (va_runV (As := [.int hc, .int hf]) (rest := []) ⟨hx, hb, hml, hown, hts⟩ (c_X12_readLine l E h0 q i_taped i_sort i_what i_at i_worth i_faultKind i_faultPlace i_got i_worked i_deliveries i_isPlanned i_bestDone i_bestCost sz9 en9 a_tape a_boxes a_boxMany a_minCrew a_maxForce hc hf H.size (by omega) (by omega) hI_boxMany) (cwV 2 hts gX12_insurer_X12_readLine rfl rfl rfl hdV_X12_readLine ⟨Nat.le_of_ble_eq_true rfl, Nat.le_of_ble_eq_true rfl⟩) ⟨pcW_blind, va_recv hK hPc (ci := 12) (q0 := 0) rfl rfl, (pcW_pre hPc hkn hDc hst hS hFc)⟩ rfl rfl hl.1 rfl (lv_room (Nat.le_of_ble_eq_true rfl)) dX12_insurer_118 ⟨Nat.le_of_ble_eq_true rfl, Nat.le_of_ble_eq_true rfl⟩) hS (fun q _ h => hFc q h) hFc (fun r_202 u t H1 locs ht hvm hw_203 hB hz1 hk1 hS => ?_)
              obtain ⟨u_204, u_205, u_206, u_207, u_208, u_209, u_210, u_211, u_212, u_213, u_214, u_215⟩ := u
              obtain ⟨hf_216, hf_217, hP1, hD1⟩ := hB
              rw [ht] at hP1
              try dsimp only at hw_203
              obtain ⟨hP, hD⟩ := va_join (wr := []) (w1 := [(h0, .inr (12, mG q i_taped (nI sz9) u_204 u_205 u_206 (nI u_207) u_208 u_209 u_210 u_211 i_worked i_deliveries i_isPlanned i_bestDone i_bestCost)), (q 0, .inl (E.2.1 3, 800, .inl a_tape)), (q 12, .inl (E.2.1 0, 504, .inl u_212)), (q 13, .inl (E.2.1 0, 7, .inl u_213)), (q 14, .inl (E.2.1 0, 7, .inl u_214)), (q 15, .inl (E.2.1 0, 7, .inl u_215))]) hP hD [0, 1, 2, 3, 4, 5] [] rfl rfl (by decide) (by decide) hk1 hFc hP1 hD1
              generalize H1 = H at hP hS ⊢
              have hP : va_P E.1 vwCl [(h0, .inr (12, mG q i_taped (nI sz9) u_204 u_205 u_206 (nI u_207) u_208 u_209 u_210 u_211 i_worked i_deliveries i_isPlanned i_bestDone i_bestCost)), (q 0, .inl (E.2.1 3, 800, .inl a_tape)), (q 12, .inl (E.2.1 0, 504, .inl u_212)), (q 13, .inl (E.2.1 0, 7, .inl u_213)), (q 14, .inl (E.2.1 0, 7, .inl u_214)), (q 15, .inl (E.2.1 0, 7, .inl u_215))] H := hP
              have hD : va_D A [(h0, .inr (12, mG q i_taped (nI sz9) u_204 u_205 u_206 (nI u_207) u_208 u_209 u_210 u_211 i_worked i_deliveries i_isPlanned i_bestDone i_bestCost)), (q 0, .inl (E.2.1 3, 800, .inl a_tape)), (q 12, .inl (E.2.1 0, 504, .inl u_212)), (q 13, .inl (E.2.1 0, 7, .inl u_213)), (q 14, .inl (E.2.1 0, 7, .inl u_214)), (q 15, .inl (E.2.1 0, 7, .inl u_215))] := hD
              refine lv_if_ne (tgt := 126) hx hb dX12_insurer_121 (by decide) (fun c_218 => ?_) (fun c_218 => ?_)
              · refine lv_iload_n hx hb dX12_insurer_126 rfl (lv_at hl 4 rfl) ?_
                refine lv_if_ne (tgt := 135) hx hb dX12_insurer_127 (by decide) (fun c_219 => ?_) (fun c_219 => ?_)
                · refine lv_iconst (v := 1) hx hb dX12_insurer_135 (by decide) ?_
                  refine lv_goto (tgt := 140) hx hb dX12_insurer_136 (by decide) ?_
                  refine lv_istore_n (lv' := [(2, .int 1), (6, .int 1), (5, .int 1), (0, .ref h0), (1, .int (nI b)), (3, .int hf), (4, .int li_)]) hx hb dX12_insurer_140 rfl hl (by decide) rfl (fun ls hl => ?_)
                  refine lv_iload_n hx hb dX12_insurer_141 rfl (lv_at hl 5 rfl) ?_
                  refine lv_if_ne (tgt := 150) hx hb dX12_insurer_142 (by decide) (fun c_220 => ?_) (fun c_220 => ?_)
                  · refine lv_iconst (v := 1) hx hb dX12_insurer_150 (by decide) ?_
                    refine lv_goto (tgt := 155) hx hb dX12_insurer_151 (by decide) ?_
                    refine lv_istore_n (lv' := [(3, .int 1), (2, .int 1), (6, .int 1), (5, .int 1), (0, .ref h0), (1, .int (nI b)), (4, .int li_)]) hx hb dX12_insurer_155 rfl hl (by decide) rfl (fun ls hl => ?_)
                    obtain ⟨x_221, ex_221⟩ : ∃ y : Int32, y = li_ + 1 := ⟨_, rfl⟩
                    refine lv_iinc (v := x_221) (lv' := [(4, .int x_221), (3, .int 1), (2, .int 1), (6, .int 1), (5, .int 1), (0, .ref h0), (1, .int (nI b))]) hx hb dX12_insurer_156 hl (k := 6) rfl (by rw [ex_221]; rfl) (by decide) rfl (fun ls hl => ?_)
                    refine lv_goto (tgt := 60) hx hb dX12_insurer_159 (by decide) ?_
                    exact ih 1 1 x_221 u_204 u_205 u_206 u_207 u_208 u_209 u_210 u_211 u_212 u_213 u_214 u_215 _ _ _ (by
                            have h9 := (hw_203.2).resolve_left c_218
                            rw [if_neg c_1] at hn0
                            rcases h9 with h9 | h9
                            · rw [if_pos h9]; omega
                            · split <;> omega) (by omega) hf_216 (hP.sub [0, 1, 2, 3, 4, 5] rfl) (hD.sub [0, 1, 2, 3, 4, 5] (by decide) rfl) hS (lv_sub hl [5, 6, 2, 1, 0] rfl)
                  · refine lv_iload hx hb dX12_insurer_145 (lv_at hl 1 rfl) ?_
                    refine lv_if_eq (tgt := 154) hx hb dX12_insurer_147 (by decide) (fun c9 => absurd c9 (by decide)) (fun _ => ?_)
                    refine lv_iconst (v := 1) hx hb dX12_insurer_150 (by decide) ?_
                    refine lv_goto (tgt := 155) hx hb dX12_insurer_151 (by decide) ?_
                    refine lv_istore_n (lv' := [(3, .int 1), (2, .int 1), (6, .int 1), (5, .int 1), (0, .ref h0), (1, .int (nI b)), (4, .int li_)]) hx hb dX12_insurer_155 rfl hl (by decide) rfl (fun ls hl => ?_)
                    obtain ⟨x_222, ex_222⟩ : ∃ y : Int32, y = li_ + 1 := ⟨_, rfl⟩
                    refine lv_iinc (v := x_222) (lv' := [(4, .int x_222), (3, .int 1), (2, .int 1), (6, .int 1), (5, .int 1), (0, .ref h0), (1, .int (nI b))]) hx hb dX12_insurer_156 hl (k := 6) rfl (by rw [ex_222]; rfl) (by decide) rfl (fun ls hl => ?_)
                    refine lv_goto (tgt := 60) hx hb dX12_insurer_159 (by decide) ?_
                    exact ih 1 1 x_222 u_204 u_205 u_206 u_207 u_208 u_209 u_210 u_211 u_212 u_213 u_214 u_215 _ _ _ (by
                            have h9 := (hw_203.2).resolve_left c_218
                            rw [if_neg c_1] at hn0
                            rcases h9 with h9 | h9
                            · rw [if_pos h9]; omega
                            · split <;> omega) (by omega) hf_216 (hP.sub [0, 1, 2, 3, 4, 5] rfl) (hD.sub [0, 1, 2, 3, 4, 5] (by decide) rfl) hS (lv_sub hl [5, 6, 2, 1, 0] rfl)
                · refine lv_iload hx hb dX12_insurer_130 (lv_at hl 1 rfl) ?_
                  refine lv_if_eq (tgt := 139) hx hb dX12_insurer_132 (by decide) (fun c9 => absurd c9 (by decide)) (fun _ => ?_)
                  refine lv_iconst (v := 1) hx hb dX12_insurer_135 (by decide) ?_
                  refine lv_goto (tgt := 140) hx hb dX12_insurer_136 (by decide) ?_
                  refine lv_istore_n (lv' := [(2, .int 1), (6, .int 1), (5, .int 1), (0, .ref h0), (1, .int (nI b)), (3, .int hf), (4, .int li_)]) hx hb dX12_insurer_140 rfl hl (by decide) rfl (fun ls hl => ?_)
                  refine lv_iload_n hx hb dX12_insurer_141 rfl (lv_at hl 5 rfl) ?_
                  refine lv_if_ne (tgt := 150) hx hb dX12_insurer_142 (by decide) (fun c_223 => ?_) (fun c_223 => ?_)
                  · refine lv_iconst (v := 1) hx hb dX12_insurer_150 (by decide) ?_
                    refine lv_goto (tgt := 155) hx hb dX12_insurer_151 (by decide) ?_
                    refine lv_istore_n (lv' := [(3, .int 1), (2, .int 1), (6, .int 1), (5, .int 1), (0, .ref h0), (1, .int (nI b)), (4, .int li_)]) hx hb dX12_insurer_155 rfl hl (by decide) rfl (fun ls hl => ?_)
                    obtain ⟨x_224, ex_224⟩ : ∃ y : Int32, y = li_ + 1 := ⟨_, rfl⟩
                    refine lv_iinc (v := x_224) (lv' := [(4, .int x_224), (3, .int 1), (2, .int 1), (6, .int 1), (5, .int 1), (0, .ref h0), (1, .int (nI b))]) hx hb dX12_insurer_156 hl (k := 6) rfl (by rw [ex_224]; rfl) (by decide) rfl (fun ls hl => ?_)
                    refine lv_goto (tgt := 60) hx hb dX12_insurer_159 (by decide) ?_
                    exact ih 1 1 x_224 u_204 u_205 u_206 u_207 u_208 u_209 u_210 u_211 u_212 u_213 u_214 u_215 _ _ _ (by
                            have h9 := (hw_203.2).resolve_left c_218
                            rw [if_neg c_1] at hn0
                            rcases h9 with h9 | h9
                            · rw [if_pos h9]; omega
                            · split <;> omega) (by omega) hf_216 (hP.sub [0, 1, 2, 3, 4, 5] rfl) (hD.sub [0, 1, 2, 3, 4, 5] (by decide) rfl) hS (lv_sub hl [5, 6, 2, 1, 0] rfl)
                  · refine lv_iload hx hb dX12_insurer_145 (lv_at hl 1 rfl) ?_
                    refine lv_if_eq (tgt := 154) hx hb dX12_insurer_147 (by decide) (fun c9 => absurd c9 (by decide)) (fun _ => ?_)
                    refine lv_iconst (v := 1) hx hb dX12_insurer_150 (by decide) ?_
                    refine lv_goto (tgt := 155) hx hb dX12_insurer_151 (by decide) ?_
                    refine lv_istore_n (lv' := [(3, .int 1), (2, .int 1), (6, .int 1), (5, .int 1), (0, .ref h0), (1, .int (nI b)), (4, .int li_)]) hx hb dX12_insurer_155 rfl hl (by decide) rfl (fun ls hl => ?_)
                    obtain ⟨x_225, ex_225⟩ : ∃ y : Int32, y = li_ + 1 := ⟨_, rfl⟩
                    refine lv_iinc (v := x_225) (lv' := [(4, .int x_225), (3, .int 1), (2, .int 1), (6, .int 1), (5, .int 1), (0, .ref h0), (1, .int (nI b))]) hx hb dX12_insurer_156 hl (k := 6) rfl (by rw [ex_225]; rfl) (by decide) rfl (fun ls hl => ?_)
                    refine lv_goto (tgt := 60) hx hb dX12_insurer_159 (by decide) ?_
                    exact ih 1 1 x_225 u_204 u_205 u_206 u_207 u_208 u_209 u_210 u_211 u_212 u_213 u_214 u_215 _ _ _ (by
                            have h9 := (hw_203.2).resolve_left c_218
                            rw [if_neg c_1] at hn0
                            rcases h9 with h9 | h9
                            · rw [if_pos h9]; omega
                            · split <;> omega) (by omega) hf_216 (hP.sub [0, 1, 2, 3, 4, 5] rfl) (hD.sub [0, 1, 2, 3, 4, 5] (by decide) rfl) hS (lv_sub hl [5, 6, 2, 1, 0] rfl)
              · exact kk2 u_204 u_205 u_206 u_207 u_208 u_209 u_210 u_211 u_212 u_213 u_214 u_215 _ _ _ hf_216 (hP.sub [0, 1, 2, 3, 4, 5] rfl) (hD.sub [0, 1, 2, 3, 4, 5] (by decide) rfl) hS (lv_sub hl [2, 3] rfl)
set_option maxHeartbeats 4000000 in
set_option maxRecDepth 100000 in
theorem lm_ins2 {p : Program} {l : Launch} {e : Env} {R : Room} {s : State} {m : MethodId} {args : Array Value} {below : List Frame} {meth : Method} {c : Code} {cells slots : Nat} {Q : State → Prop} {A : Nat → Prop} (E : vE) (h0 : Nat) (q : Nat → Nat) (i_taped : Int32) (i_size : Int32) (i_sort : Int32) (i_what : Int32) (i_at : Int32) (i_end : Int32) (i_worth : Int32) (i_faultKind : Int32) (i_faultPlace : Int32) (i_got : Int32) (i_worked : Int32) (i_deliveries : Int32) (i_isPlanned : Int32) (i_bestDone : Int32) (i_bestCost : Int32) (b : Nat) (li_ : Int32) (wr : va_W) (hx : p.tables.exec = Jvm.exec) (hb : c.code = cX12_insurer) (hml : c.maxLocals = 7) (hown : s.vm.findClass RX12 = some m.cls) (hts : ∀ w ∈ wsX12_insurer, w.before args s = true) (hkn : kn E s) (hst : st E A s s.heap) (hA : ∀ q : Nat, s.heap.size ≤ q → A q) (hb6 : b < 6) (kk : ∀ (a_boxes : Nat → Int32) (H : Heap) (locs : List Loc) (ls : Array Slot), va_P E.1 vwCl ((h0, .inr (12, mG q i_taped i_size i_sort i_what i_at i_end i_worth i_faultKind i_faultPlace i_got i_worked i_deliveries i_isPlanned i_bestDone i_bestCost)) :: (q 12, .inl (E.2.1 0, 504, .inl a_boxes)) :: wr) H → va_D A ((h0, .inr (12, mG q i_taped i_size i_sort i_what i_at i_end i_worth i_faultKind i_faultPlace i_got i_worked i_deliveries i_isPlanned i_bestDone i_bestCost)) :: (q 12, .inl (E.2.1 0, 504, .inl a_boxes)) :: wr) → va_S A s.heap H locs → lv_has ls 7 [(0, .ref h0), (4, .int li_)] → W p l e R s m args below meth c H locs cells slots Q (F0 m 240 ls [])) : ∀ (n0 : Nat) (k : Nat) (a_boxes : Nat → Int32) (H : Heap) (locs : List Loc) (ls : Array Slot), 72 - k < n0 → (k ≤ 72) → va_P E.1 vwCl ((h0, .inr (12, mG q i_taped i_size i_sort i_what i_at i_end i_worth i_faultKind i_faultPlace i_got i_worked i_deliveries i_isPlanned i_bestDone i_bestCost)) :: (q 12, .inl (E.2.1 0, 504, .inl a_boxes)) :: wr) H → va_D A ((h0, .inr (12, mG q i_taped i_size i_sort i_what i_at i_end i_worth i_faultKind i_faultPlace i_got i_worked i_deliveries i_isPlanned i_bestDone i_bestCost)) :: (q 12, .inl (E.2.1 0, 504, .inl a_boxes)) :: wr) → va_S A s.heap H locs → lv_has ls 7 [(0, .ref h0), (1, .int (nI b)), (4, .int li_), (5, .int (nI k))] → W p l e R s m args below meth c H locs cells slots Q (F0 m 204 ls []) := by
  have hK := hkn.1
  have hAO := hkn.2.2.1
  have fl13 := hts (.fieldLink RX12 13 "BoatsHomeModel" "faultPlace" "I") (by first | exact List.mem_of_getElem? (i := 2) rfl | decide +kernel)
  have fl24 := hts (.fieldLink RX12 24 "BoatsHomeModel" "boxes" "[I") (by first | exact List.mem_of_getElem? (i := 8) rfl | decide +kernel)
  have fl27 := hts (.fieldLink RX12 27 "BoatsHomeModel" "boxMany" "[I") (by first | exact List.mem_of_getElem? (i := 3) rfl | decide +kernel)
  have fl30 := hts (.fieldLink RX12 30 "BoatsHomeModel" "minCrew" "[I") (by first | exact List.mem_of_getElem? (i := 4) rfl | decide +kernel)
  have fl33 := hts (.fieldLink RX12 33 "BoatsHomeModel" "maxForce" "[I") (by first | exact List.mem_of_getElem? (i := 5) rfl | decide +kernel)
  have fl180 := hts (.fieldLink RX12 180 "BoatsHomeModel" "sort" "I") (by first | exact List.mem_of_getElem? (i := 6) rfl | decide +kernel)
  have fl191 := hts (.fieldLink RX12 191 "BoatsHomeModel" "what" "I") (by first | exact List.mem_of_getElem? (i := 7) rfl | decide +kernel)
  have fl200 := hts (.fieldLink RX12 200 "BoatsHomeModel" "faultKind" "I") (by first | exact List.mem_of_getElem? (i := 1) rfl | decide +kernel)
  have inX12 : ∀ w ∈ u_ws RX12 TX12 59, w ∈ wsX12_insurer := by first | exact fun w h9 => (List.mem_cons_of_mem _ (List.mem_append_right _ h9)) | decide +kernel
  intro n0
  induction n0 with
  | zero =>
    intro k a_boxes H locs ls hn0
    exact absurd hn0 (Nat.not_lt_zero _)
  | succ n0 ih =>
    intro k a_boxes H locs ls hn0 hk hP hD hS hl
    refine lv_iload hx hb dX12_insurer_204 (lv_at hl 3 rfl) ?_
    refine lv_bipush (v := 72) hx hb dX12_insurer_206 (by decide) ?_
    refine lv_icmp_ge (tgt := 240) hx hb dX12_insurer_208 (by decide) (fun c_1 => ?_) (fun c_1 => ?_)
    · exact kk a_boxes _ _ _  hP hD hS (lv_sub hl [0, 2] rfl)
    · have hlt : k < 72 := lt_of_nle (a := 72) (by omega) c_1
      refine lv_aload_n hx hb dX12_insurer_211 rfl (lv_at hl 0 rfl) ?_
      refine va_get (D := E.1) (ci := 12) (v := .ref (q 12)) (C := RX12) (T := TX12) (N := 59) hx hb hts inX12 hown hK hP 0 rfl rfl 12 (by decide) fl24 (fun _ h9 => h9) rfl dX12_insurer_212 ?_
      refine lv_bipush (v := 72) hx hb dX12_insurer_215 (by decide) ?_
      refine lv_iload_n hx hb dX12_insurer_217 rfl (lv_at hl 1 rfl) ?_
      refine lv_imul hx hb dX12_insurer_218 ?_
      refine lv_topi (fun x_2 ex_2 => ?_)
      obtain rfl : x_2 = nI (72 * b) := ex_2.trans (pk_mul 72 b)
      refine lv_iload hx hb dX12_insurer_219 (lv_at hl 3 rfl) ?_
      refine lv_iadd hx hb dX12_insurer_221 ?_
      refine lv_topi (fun x_3 ex_3 => ?_)
      obtain rfl : x_3 = nI ((72 * b) + k) := ex_3.trans (nI_add (72 * b) k)
      refine lv_aload_n hx hb dX12_insurer_222 rfl (lv_at hl 0 rfl) ?_
      refine va_get (D := E.1) (ci := 12) (v := .ref (q 12)) (C := RX12) (T := TX12) (N := 59) hx hb hts inX12 hown hK hP 0 rfl rfl 12 (by decide) fl24 (fun _ h9 => h9) rfl dX12_insurer_223 ?_
      refine lv_sipush (v := 432) hx hb dX12_insurer_226 (by decide) ?_
      refine lv_iload hx hb dX12_insurer_229 (lv_at hl 3 rfl) ?_
      refine lv_iadd hx hb dX12_insurer_231 ?_
      refine lv_topi (fun x_4 ex_4 => ?_)
      obtain rfl : x_4 = nI (432 + k) := ex_4.trans (nI_add 432 k)
      have hi_5 : vp_in (nI (432 + k)) 504 := vp_in_nI (by omega) (by decide)
      refine va_iald hx hb hK hP 1 0 rfl rfl hi_5 dX12_insurer_232 ?_
      refine lv_topi (fun x_6 ex_6 => ?_)
      have hi_7 : vp_in (nI ((72 * b) + k)) 504 := vp_in_nI (by omega) (by decide)
      refine va_iast hx hb hK hP hD hS 1 0 rfl rfl hi_7 dX12_insurer_233 (fun H locs hP hD hS => ?_)
      have hP : va_P E.1 vwCl ((h0, .inr (12, mG q i_taped i_size i_sort i_what i_at i_end i_worth i_faultKind i_faultPlace i_got i_worked i_deliveries i_isPlanned i_bestDone i_bestCost)) :: (q 12, .inl (E.2.1 0, 504, .inl (upd a_boxes (nI ((72 * b) + k)).toNatClampNeg x_6))) :: wr) H := hP
      have hD : va_D A ((h0, .inr (12, mG q i_taped i_size i_sort i_what i_at i_end i_worth i_faultKind i_faultPlace i_got i_worked i_deliveries i_isPlanned i_bestDone i_bestCost)) :: (q 12, .inl (E.2.1 0, 504, .inl (upd a_boxes (nI ((72 * b) + k)).toNatClampNeg x_6))) :: wr) := hD
      obtain ⟨f_8, ef_8⟩ : ∃ g : Nat → Int32, g = upd a_boxes (nI ((72 * b) + k)).toNatClampNeg x_6 := ⟨_, rfl⟩
      rw [← ef_8] at hP hD
      refine lv_iinc (v := (nI (k + 1))) (lv' := [(5, .int (nI (k + 1))), (0, .ref h0), (1, .int (nI b)), (4, .int li_)]) hx hb dX12_insurer_234 hl (k := 3) rfl (show nI k + 1 = nI (k + 1) from nI_1 k) (by decide) rfl (fun ls hl => ?_)
      refine lv_goto (tgt := 204) hx hb dX12_insurer_237 (by decide) ?_
      exact ih (k + 1) f_8 _ _ _ (by omega) (by omega) hP hD hS (lv_sub hl [1, 2, 3, 0] rfl)
set_option maxHeartbeats 4000000 in
set_option maxRecDepth 100000 in
theorem c_X12_insurer (l : Launch) (E : vE) (h0 : Nat) (q : Nat → Nat) (i_size : Int32) (i_sort : Int32) (i_what : Int32) (i_at : Int32) (i_end : Int32) (i_worth : Int32) (i_faultKind : Int32) (i_faultPlace : Int32) (i_got : Int32) (i_worked : Int32) (i_deliveries : Int32) (i_isPlanned : Int32) (i_bestDone : Int32) (i_bestCost : Int32) (ln : Nat) (a_tape : Nat → Int32) (a_boxes : Nat → Int32) (a_boxMany : Nat → Int32) (a_minCrew : Nat → Int32) (a_maxForce : Nat → Int32) (b : Int32) (sz : Nat) (hln : ln ≤ 800) (hI_boxMany : ∀ k : Nat, k < 7 → inR (a_boxMany k) 0 12 = true) : Met l yX12_insurer wsX12_insurer ({ frames := 8, cells := 0, slots := 0, locals := 182 }) (pcW E [.ref h0, .int b] sz [(h0, .inr (12, mG q (nI ln) i_size i_sort i_what i_at i_end i_worth i_faultKind i_faultPlace i_got i_worked i_deliveries i_isPlanned i_bestDone i_bestCost)), (q 0, .inl (E.2.1 3, 800, .inl a_tape)), (q 12, .inl (E.2.1 0, 504, .inl a_boxes)), (q 13, .inl (E.2.1 0, 7, .inl a_boxMany)), (q 14, .inl (E.2.1 0, 7, .inl a_minCrew)), (q 15, .inl (E.2.1 0, 7, .inl a_maxForce))]) (va_Qi (fun (r : Int32) (u : Int32 × Int32 × Int32 × Int32 × Int32 × Int32 × Int32 × Int32 × Int32 × (Nat → Int32) × (Nat → Int32) × (Nat → Int32) × (Nat → Int32)) => match u with | (so2, wh2, at2, wo2, fk2, fp2, go2, en2, si2, b_boxes, b_boxMany, b_minCrew, b_maxForce) => True) (fun (u : Int32 × Int32 × Int32 × Int32 × Int32 × Int32 × Int32 × Int32 × Int32 × (Nat → Int32) × (Nat → Int32) × (Nat → Int32) × (Nat → Int32)) (t : State) => match u with | (so2, wh2, at2, wo2, fk2, fp2, go2, en2, si2, b_boxes, b_boxMany, b_minCrew, b_maxForce) => (∀ k : Nat, k < 7 → inR (b_boxMany k) 0 12 = true) ∧ wB E (va_A [(h0, .inr (12, mG q (nI ln) i_size i_sort i_what i_at i_end i_worth i_faultKind i_faultPlace i_got i_worked i_deliveries i_isPlanned i_bestDone i_bestCost)), (q 0, .inl (E.2.1 3, 800, .inl a_tape)), (q 12, .inl (E.2.1 0, 504, .inl a_boxes)), (q 13, .inl (E.2.1 0, 7, .inl a_boxMany)), (q 14, .inl (E.2.1 0, 7, .inl a_minCrew)), (q 15, .inl (E.2.1 0, 7, .inl a_maxForce))] sz) [(h0, .inr (12, mG q 0 si2 so2 wh2 at2 en2 wo2 fk2 fp2 go2 i_worked i_deliveries i_isPlanned i_bestDone i_bestCost)), (q 0, .inl (E.2.1 3, 800, .inl a_tape)), (q 12, .inl (E.2.1 0, 504, .inl b_boxes)), (q 13, .inl (E.2.1 0, 7, .inl b_boxMany)), (q 14, .inl (E.2.1 0, 7, .inl b_minCrew)), (q 15, .inl (E.2.1 0, 7, .inl b_maxForce))] t) (va_A [(h0, .inr (12, mG q (nI ln) i_size i_sort i_what i_at i_end i_worth i_faultKind i_faultPlace i_got i_worked i_deliveries i_isPlanned i_bestDone i_bestCost)), (q 0, .inl (E.2.1 3, 800, .inl a_tape)), (q 12, .inl (E.2.1 0, 504, .inl a_boxes)), (q 13, .inl (E.2.1 0, 7, .inl a_boxMany)), (q 14, .inl (E.2.1 0, 7, .inl a_minCrew)), (q 15, .inl (E.2.1 0, 7, .inl a_maxForce))] sz)) 0 0 (va_A [(h0, .inr (12, mG q (nI ln) i_size i_sort i_what i_at i_end i_worth i_faultKind i_faultPlace i_got i_worked i_deliveries i_isPlanned i_bestDone i_bestCost)), (q 0, .inl (E.2.1 3, 800, .inl a_tape)), (q 12, .inl (E.2.1 0, 504, .inl a_boxes)), (q 13, .inl (E.2.1 0, 7, .inl a_boxMany)), (q 14, .inl (E.2.1 0, 7, .inl a_minCrew)), (q 15, .inl (E.2.1 0, 7, .inl a_maxForce))] sz) := by
  refine Met.ofW (cc := cX12_insurer) (maxL := 7) (ret := (some .int)) (by decide) rfl ?_
  intro p e s m args below meth c s₁ B hml hv
  obtain ⟨rfl, hsz, hP, hkn, hD0, hst⟩ := hv
  have hx := B.exec
  have hb := B.bytes
  have hr := B.returns
  have hts := atoms_spec (ws := wsX12_insurer) B.pre
  have hown : s.vm.findClass RX12 = some m.cls := findClass_of_methodNamed B.named
  have hlocks := B.notSynchronized
  subst hsz
  have hD := hD0.self (sz := s.heap.size)
  have hK := hkn.1
  have hAO := hkn.2.2.1
  generalize hAe : va_A [(h0, .inr (12, mG q (nI ln) i_size i_sort i_what i_at i_end i_worth i_faultKind i_faultPlace i_got i_worked i_deliveries i_isPlanned i_bestDone i_bestCost)), (q 0, .inl (E.2.1 3, 800, .inl a_tape)), (q 12, .inl (E.2.1 0, 504, .inl a_boxes)), (q 13, .inl (E.2.1 0, 7, .inl a_boxMany)), (q 14, .inl (E.2.1 0, 7, .inl a_minCrew)), (q 15, .inl (E.2.1 0, 7, .inl a_maxForce))] s.heap.size = A at hD hst ⊢
  have hA : ∀ q : Nat, s.heap.size ≤ q → A q := fun q h => by rw [← hAe]; exact Or.inr h
  have hS : va_S A s.heap s.heap [] := va_S.rf
  have hP : va_P E.1 vwCl [(h0, .inr (12, mG q (nI ln) i_size i_sort i_what i_at i_end i_worth i_faultKind i_faultPlace i_got i_worked i_deliveries i_isPlanned i_bestDone i_bestCost)), (q 0, .inl (E.2.1 3, 800, .inl a_tape)), (q 12, .inl (E.2.1 0, 504, .inl a_boxes)), (q 13, .inl (E.2.1 0, 7, .inl a_boxMany)), (q 14, .inl (E.2.1 0, 7, .inl a_minCrew)), (q 15, .inl (E.2.1 0, 7, .inl a_maxForce))] s.heap := hP
  have hl := lv_entry ([.ref h0, .int b]) (n := 7) (Nat.le_of_ble_eq_true rfl)
  rw [lg_entry_eq]
  generalize (lg_sl ([.ref h0, .int b]) ++ List.replicate (7 - (lg_sl ([.ref h0, .int b])).length) Slot.unset).toArray = ls at hl ⊢
  have hl : lv_has ls 7 [(0, .ref h0), (1, .int b)] := hl
  have fl13 := hts (.fieldLink RX12 13 "BoatsHomeModel" "faultPlace" "I") (by first | exact List.mem_of_getElem? (i := 2) rfl | decide +kernel)
  have fl24 := hts (.fieldLink RX12 24 "BoatsHomeModel" "boxes" "[I") (by first | exact List.mem_of_getElem? (i := 8) rfl | decide +kernel)
  have fl27 := hts (.fieldLink RX12 27 "BoatsHomeModel" "boxMany" "[I") (by first | exact List.mem_of_getElem? (i := 3) rfl | decide +kernel)
  have fl30 := hts (.fieldLink RX12 30 "BoatsHomeModel" "minCrew" "[I") (by first | exact List.mem_of_getElem? (i := 4) rfl | decide +kernel)
  have fl33 := hts (.fieldLink RX12 33 "BoatsHomeModel" "maxForce" "[I") (by first | exact List.mem_of_getElem? (i := 5) rfl | decide +kernel)
  have fl180 := hts (.fieldLink RX12 180 "BoatsHomeModel" "sort" "I") (by first | exact List.mem_of_getElem? (i := 6) rfl | decide +kernel)
  have fl191 := hts (.fieldLink RX12 191 "BoatsHomeModel" "what" "I") (by first | exact List.mem_of_getElem? (i := 7) rfl | decide +kernel)
  have fl200 := hts (.fieldLink RX12 200 "BoatsHomeModel" "faultKind" "I") (by first | exact List.mem_of_getElem? (i := 1) rfl | decide +kernel)
  have inX12 : ∀ w ∈ u_ws RX12 TX12 59, w ∈ wsX12_insurer := by first | exact fun w h9 => (List.mem_cons_of_mem _ (List.mem_append_right _ h9)) | decide +kernel
  refine lv_aload_n hx hb dX12_insurer_0 rfl (lv_at hl 0 rfl) ?_
  have hPc := hP.sub (ws' := [(h0, .inr (12, mG q (nI ln) i_size i_sort i_what i_at i_end i_worth i_faultKind i_faultPlace i_got i_worked i_deliveries i_isPlanned i_bestDone i_bestCost))]) [0] rfl
  have hDc := hD.sub (ws' := [(h0, .inr (12, mG q (nI ln) i_size i_sort i_what i_at i_end i_worth i_faultKind i_faultPlace i_got i_worked i_deliveries i_isPlanned i_bestDone i_bestCost))]) [0] (by decide) rfl
  have hFc := va_free (wc := [(h0, .inr (12, mG q (nI ln) i_size i_sort i_what i_at i_end i_worth i_faultKind i_faultPlace i_got i_worked i_deliveries i_isPlanned i_bestDone i_bestCost))]) hD hS hA [0] rfl
  refine va_callv (va_runV (As := []) (rest := []) ⟨hx, hb, hml, hown, hts⟩ (c_X12_taking l E h0 q i_size i_sort i_what i_at i_end i_worth i_faultKind i_faultPlace i_got i_worked i_deliveries i_isPlanned i_bestDone i_bestCost ln s.heap.size ) (cwV 0 hts gX12_insurer_X12_taking rfl rfl rfl hdV_X12_taking ⟨Nat.le_of_ble_eq_true rfl, Nat.le_of_ble_eq_true rfl⟩) ⟨pcW_blind, va_recv hK hPc (ci := 12) (q0 := 0) rfl rfl, (pcW_pre hPc hkn hDc hst hS hFc)⟩ rfl rfl hl.1 rfl (lv_room (Nat.le_of_ble_eq_true rfl)) dX12_insurer_1 ⟨Nat.le_of_ble_eq_true rfl, Nat.le_of_ble_eq_true rfl⟩) hS (fun q _ h => hFc q h) hFc (fun u t H1 locs ht hvm hw_2 hB hz1 hk1 hS => ?_)
  obtain ⟨hP1, hD1⟩ := hB
  rw [ht] at hP1
  try dsimp only at hw_2
  obtain ⟨hP, hD⟩ := va_join (wr := [(q 0, .inl (E.2.1 3, 800, .inl a_tape)), (q 12, .inl (E.2.1 0, 504, .inl a_boxes)), (q 13, .inl (E.2.1 0, 7, .inl a_boxMany)), (q 14, .inl (E.2.1 0, 7, .inl a_minCrew)), (q 15, .inl (E.2.1 0, 7, .inl a_maxForce))]) (w1 := [(h0, .inr (12, mG q 0 (nI ln) i_sort i_what i_at 0 i_worth i_faultKind i_faultPlace i_got i_worked i_deliveries i_isPlanned i_bestDone i_bestCost))]) hP hD [0] [1, 2, 3, 4, 5] rfl rfl (by decide) (by decide) hk1 hFc hP1 hD1
  generalize H1 = H at hP hS ⊢
  have hP : va_P E.1 vwCl [(q 0, .inl (E.2.1 3, 800, .inl a_tape)), (q 12, .inl (E.2.1 0, 504, .inl a_boxes)), (q 13, .inl (E.2.1 0, 7, .inl a_boxMany)), (q 14, .inl (E.2.1 0, 7, .inl a_minCrew)), (q 15, .inl (E.2.1 0, 7, .inl a_maxForce)), (h0, .inr (12, mG q 0 (nI ln) i_sort i_what i_at 0 i_worth i_faultKind i_faultPlace i_got i_worked i_deliveries i_isPlanned i_bestDone i_bestCost))] H := hP
  have hD : va_D A [(q 0, .inl (E.2.1 3, 800, .inl a_tape)), (q 12, .inl (E.2.1 0, 504, .inl a_boxes)), (q 13, .inl (E.2.1 0, 7, .inl a_boxMany)), (q 14, .inl (E.2.1 0, 7, .inl a_minCrew)), (q 15, .inl (E.2.1 0, 7, .inl a_maxForce)), (h0, .inr (12, mG q 0 (nI ln) i_sort i_what i_at 0 i_worth i_faultKind i_faultPlace i_got i_worked i_deliveries i_isPlanned i_bestDone i_bestCost))] := hD
  refine lv_iload_n hx hb dX12_insurer_4 rfl (lv_at hl 1 rfl) ?_
  have hPc := hP.sub (ws' := []) [] rfl
  have hDc := hD.sub (ws' := []) [] (by decide) rfl
  have hFc := va_free (wc := []) hD hS hA [] rfl
  refine va_calli (va_runS (As := [.int b]) (rest := []) ⟨hx, hb, hml, hown, hts⟩ (c_X12_isBoat l E b H.size ) (va_cwS 1 hts gX12_insurer_X12_isBoat rfl rfl rfl hdS_X12_isBoat ⟨Nat.le_of_ble_eq_true rfl, Nat.le_of_ble_eq_true rfl⟩) ⟨pcW_blind, (pcW_pre hPc hkn hDc hst hS hFc)⟩ rfl rfl hl.1 rfl (lv_room (Nat.le_of_ble_eq_true rfl)) dX12_insurer_5 ⟨Nat.le_of_ble_eq_true rfl, Nat.le_of_ble_eq_true rfl⟩) hS (fun q _ h => hFc q h) hFc (fun r_3 u t H1 locs ht hvm hw_4 hB hz1 hk1 hS => ?_)
  obtain ⟨hP1, hD1⟩ := hB
  rw [ht] at hP1
  try dsimp only at hw_4
  obtain ⟨hP, hD⟩ := va_join (wr := [(q 0, .inl (E.2.1 3, 800, .inl a_tape)), (q 12, .inl (E.2.1 0, 504, .inl a_boxes)), (q 13, .inl (E.2.1 0, 7, .inl a_boxMany)), (q 14, .inl (E.2.1 0, 7, .inl a_minCrew)), (q 15, .inl (E.2.1 0, 7, .inl a_maxForce)), (h0, .inr (12, mG q 0 (nI ln) i_sort i_what i_at 0 i_worth i_faultKind i_faultPlace i_got i_worked i_deliveries i_isPlanned i_bestDone i_bestCost))]) (w1 := []) hP hD [] [0, 1, 2, 3, 4, 5] rfl rfl (by decide) (by decide) hk1 hFc hP1 hD1
  generalize H1 = H at hP hS ⊢
  have hP : va_P E.1 vwCl [(q 0, .inl (E.2.1 3, 800, .inl a_tape)), (q 12, .inl (E.2.1 0, 504, .inl a_boxes)), (q 13, .inl (E.2.1 0, 7, .inl a_boxMany)), (q 14, .inl (E.2.1 0, 7, .inl a_minCrew)), (q 15, .inl (E.2.1 0, 7, .inl a_maxForce)), (h0, .inr (12, mG q 0 (nI ln) i_sort i_what i_at 0 i_worth i_faultKind i_faultPlace i_got i_worked i_deliveries i_isPlanned i_bestDone i_bestCost))] H := hP
  have hD : va_D A [(q 0, .inl (E.2.1 3, 800, .inl a_tape)), (q 12, .inl (E.2.1 0, 504, .inl a_boxes)), (q 13, .inl (E.2.1 0, 7, .inl a_boxMany)), (q 14, .inl (E.2.1 0, 7, .inl a_minCrew)), (q 15, .inl (E.2.1 0, 7, .inl a_maxForce)), (h0, .inr (12, mG q 0 (nI ln) i_sort i_what i_at 0 i_worth i_faultKind i_faultPlace i_got i_worked i_deliveries i_isPlanned i_bestDone i_bestCost))] := hD
  refine lv_if_ne (tgt := 14) hx hb dX12_insurer_8 (by decide) (fun c_5 => ?_) (fun c_5 => ?_)
  · have b_6 : inR b 0 5 = true := bn hw_4 c_5
    obtain ⟨j_b, hj_b, ej_b⟩ := inR_nI (n := 5) (by decide) b_6
    subst ej_b
    refine lv_aload_n hx hb dX12_insurer_14 rfl (lv_at hl 0 rfl) ?_
    refine lv_iconst (v := 0) hx hb dX12_insurer_15 (by decide) ?_
    refine va_put (D := E.1) (ci := 12) (v := .int 0) (ty := .int) (C := RX12) (T := TX12) (N := 59) hx hb hts inX12 tyX12 tyX12_ok nmX12 hown hK hP hD hS 5 rfl rfl 8 (by decide) fl200 (fun _ h9 => h9) rfl (by decide +kernel) rfl rfl (Nat.le_of_ble_eq_true rfl) dX12_insurer_16 (fun H locs hP hD hS => ?_)
    have hP : va_P E.1 vwCl [(q 0, .inl (E.2.1 3, 800, .inl a_tape)), (q 12, .inl (E.2.1 0, 504, .inl a_boxes)), (q 13, .inl (E.2.1 0, 7, .inl a_boxMany)), (q 14, .inl (E.2.1 0, 7, .inl a_minCrew)), (q 15, .inl (E.2.1 0, 7, .inl a_maxForce)), (h0, .inr (12, mG q 0 (nI ln) i_sort i_what i_at 0 i_worth 0 i_faultPlace i_got i_worked i_deliveries i_isPlanned i_bestDone i_bestCost))] H := hP
    have hD : va_D A [(q 0, .inl (E.2.1 3, 800, .inl a_tape)), (q 12, .inl (E.2.1 0, 504, .inl a_boxes)), (q 13, .inl (E.2.1 0, 7, .inl a_boxMany)), (q 14, .inl (E.2.1 0, 7, .inl a_minCrew)), (q 15, .inl (E.2.1 0, 7, .inl a_maxForce)), (h0, .inr (12, mG q 0 (nI ln) i_sort i_what i_at 0 i_worth 0 i_faultPlace i_got i_worked i_deliveries i_isPlanned i_bestDone i_bestCost))] := hD
    refine lv_aload_n hx hb dX12_insurer_19 rfl (lv_at hl 0 rfl) ?_
    refine lv_iconst (v := (-1)) hx hb dX12_insurer_20 (by decide) ?_
    refine va_put (D := E.1) (ci := 12) (v := .int (-1)) (ty := .int) (C := RX12) (T := TX12) (N := 59) hx hb hts inX12 tyX12 tyX12_ok nmX12 hown hK hP hD hS 5 rfl rfl 9 (by decide) fl13 (fun _ h9 => h9) rfl (by decide +kernel) rfl rfl (Nat.le_of_ble_eq_true rfl) dX12_insurer_21 (fun H locs hP hD hS => ?_)
    have hP : va_P E.1 vwCl [(q 0, .inl (E.2.1 3, 800, .inl a_tape)), (q 12, .inl (E.2.1 0, 504, .inl a_boxes)), (q 13, .inl (E.2.1 0, 7, .inl a_boxMany)), (q 14, .inl (E.2.1 0, 7, .inl a_minCrew)), (q 15, .inl (E.2.1 0, 7, .inl a_maxForce)), (h0, .inr (12, mG q 0 (nI ln) i_sort i_what i_at 0 i_worth 0 (-1) i_got i_worked i_deliveries i_isPlanned i_bestDone i_bestCost))] H := hP
    have hD : va_D A [(q 0, .inl (E.2.1 3, 800, .inl a_tape)), (q 12, .inl (E.2.1 0, 504, .inl a_boxes)), (q 13, .inl (E.2.1 0, 7, .inl a_boxMany)), (q 14, .inl (E.2.1 0, 7, .inl a_minCrew)), (q 15, .inl (E.2.1 0, 7, .inl a_maxForce)), (h0, .inr (12, mG q 0 (nI ln) i_sort i_what i_at 0 i_worth 0 (-1) i_got i_worked i_deliveries i_isPlanned i_bestDone i_bestCost))] := hD
    refine lv_aload_n hx hb dX12_insurer_24 rfl (lv_at hl 0 rfl) ?_
    refine va_get (D := E.1) (ci := 12) (v := .ref (q 13)) (C := RX12) (T := TX12) (N := 59) hx hb hts inX12 hown hK hP 5 rfl rfl 13 (by decide) fl27 (fun _ h9 => h9) rfl dX12_insurer_25 ?_
    refine lv_bipush (v := 6) hx hb dX12_insurer_28 (by decide) ?_
    refine lv_iconst (v := 0) hx hb dX12_insurer_30 (by decide) ?_
    refine va_iast hx hb hK hP hD hS 2 0 rfl rfl (show vp_in 6 7 from by unfold vp_in; decide) dX12_insurer_31 (fun H locs hP hD hS => ?_)
    have hP : va_P E.1 vwCl [(q 0, .inl (E.2.1 3, 800, .inl a_tape)), (q 12, .inl (E.2.1 0, 504, .inl a_boxes)), (q 13, .inl (E.2.1 0, 7, .inl (upd a_boxMany (Int32.toNatClampNeg 6) 0))), (q 14, .inl (E.2.1 0, 7, .inl a_minCrew)), (q 15, .inl (E.2.1 0, 7, .inl a_maxForce)), (h0, .inr (12, mG q 0 (nI ln) i_sort i_what i_at 0 i_worth 0 (-1) i_got i_worked i_deliveries i_isPlanned i_bestDone i_bestCost))] H := hP
    have hD : va_D A [(q 0, .inl (E.2.1 3, 800, .inl a_tape)), (q 12, .inl (E.2.1 0, 504, .inl a_boxes)), (q 13, .inl (E.2.1 0, 7, .inl (upd a_boxMany (Int32.toNatClampNeg 6) 0))), (q 14, .inl (E.2.1 0, 7, .inl a_minCrew)), (q 15, .inl (E.2.1 0, 7, .inl a_maxForce)), (h0, .inr (12, mG q 0 (nI ln) i_sort i_what i_at 0 i_worth 0 (-1) i_got i_worked i_deliveries i_isPlanned i_bestDone i_bestCost))] := hD
    obtain ⟨f_7, ef_7⟩ : ∃ g : Nat → Int32, g = upd a_boxMany (Int32.toNatClampNeg 6) 0 := ⟨_, rfl⟩
    rw [← ef_7] at hP hD
    have hI_8 : ∀ k : Nat, k < 7 → inR (f_7 k) 0 12 = true := by rw [ef_7]; exact all_upd (P := fun z => inR z 0 12 = true) hI_boxMany (by decide)
    refine lv_aload_n hx hb dX12_insurer_32 rfl (lv_at hl 0 rfl) ?_
    refine va_get (D := E.1) (ci := 12) (v := .ref (q 14)) (C := RX12) (T := TX12) (N := 59) hx hb hts inX12 hown hK hP 5 rfl rfl 14 (by decide) fl30 (fun _ h9 => h9) rfl dX12_insurer_33 ?_
    refine lv_bipush (v := 6) hx hb dX12_insurer_36 (by decide) ?_
    refine lv_iconst (v := 0) hx hb dX12_insurer_38 (by decide) ?_
    refine va_iast hx hb hK hP hD hS 3 0 rfl rfl (show vp_in 6 7 from by unfold vp_in; decide) dX12_insurer_39 (fun H locs hP hD hS => ?_)
    have hP : va_P E.1 vwCl [(q 0, .inl (E.2.1 3, 800, .inl a_tape)), (q 12, .inl (E.2.1 0, 504, .inl a_boxes)), (q 13, .inl (E.2.1 0, 7, .inl f_7)), (q 14, .inl (E.2.1 0, 7, .inl (upd a_minCrew (Int32.toNatClampNeg 6) 0))), (q 15, .inl (E.2.1 0, 7, .inl a_maxForce)), (h0, .inr (12, mG q 0 (nI ln) i_sort i_what i_at 0 i_worth 0 (-1) i_got i_worked i_deliveries i_isPlanned i_bestDone i_bestCost))] H := hP
    have hD : va_D A [(q 0, .inl (E.2.1 3, 800, .inl a_tape)), (q 12, .inl (E.2.1 0, 504, .inl a_boxes)), (q 13, .inl (E.2.1 0, 7, .inl f_7)), (q 14, .inl (E.2.1 0, 7, .inl (upd a_minCrew (Int32.toNatClampNeg 6) 0))), (q 15, .inl (E.2.1 0, 7, .inl a_maxForce)), (h0, .inr (12, mG q 0 (nI ln) i_sort i_what i_at 0 i_worth 0 (-1) i_got i_worked i_deliveries i_isPlanned i_bestDone i_bestCost))] := hD
    obtain ⟨f_9, ef_9⟩ : ∃ g : Nat → Int32, g = upd a_minCrew (Int32.toNatClampNeg 6) 0 := ⟨_, rfl⟩
    rw [← ef_9] at hP hD
    refine lv_aload_n hx hb dX12_insurer_40 rfl (lv_at hl 0 rfl) ?_
    refine va_get (D := E.1) (ci := 12) (v := .ref (q 15)) (C := RX12) (T := TX12) (N := 59) hx hb hts inX12 hown hK hP 5 rfl rfl 15 (by decide) fl33 (fun _ h9 => h9) rfl dX12_insurer_41 ?_
    refine lv_bipush (v := 6) hx hb dX12_insurer_44 (by decide) ?_
    refine lv_bipush (v := 9) hx hb dX12_insurer_46 (by decide) ?_
    refine va_iast hx hb hK hP hD hS 4 0 rfl rfl (show vp_in 6 7 from by unfold vp_in; decide) dX12_insurer_48 (fun H locs hP hD hS => ?_)
    have hP : va_P E.1 vwCl [(q 0, .inl (E.2.1 3, 800, .inl a_tape)), (q 12, .inl (E.2.1 0, 504, .inl a_boxes)), (q 13, .inl (E.2.1 0, 7, .inl f_7)), (q 14, .inl (E.2.1 0, 7, .inl f_9)), (q 15, .inl (E.2.1 0, 7, .inl (upd a_maxForce (Int32.toNatClampNeg 6) 9))), (h0, .inr (12, mG q 0 (nI ln) i_sort i_what i_at 0 i_worth 0 (-1) i_got i_worked i_deliveries i_isPlanned i_bestDone i_bestCost))] H := hP
    have hD : va_D A [(q 0, .inl (E.2.1 3, 800, .inl a_tape)), (q 12, .inl (E.2.1 0, 504, .inl a_boxes)), (q 13, .inl (E.2.1 0, 7, .inl f_7)), (q 14, .inl (E.2.1 0, 7, .inl f_9)), (q 15, .inl (E.2.1 0, 7, .inl (upd a_maxForce (Int32.toNatClampNeg 6) 9))), (h0, .inr (12, mG q 0 (nI ln) i_sort i_what i_at 0 i_worth 0 (-1) i_got i_worked i_deliveries i_isPlanned i_bestDone i_bestCost))] := hD
    obtain ⟨f_10, ef_10⟩ : ∃ g : Nat → Int32, g = upd a_maxForce (Int32.toNatClampNeg 6) 9 := ⟨_, rfl⟩
    rw [← ef_10] at hP hD
    refine lv_iconst (v := 0) hx hb dX12_insurer_49 (by decide) ?_
    refine lv_istore_n (lv' := [(2, .int 0), (0, .ref h0), (1, .int (nI j_b))]) hx hb dX12_insurer_50 rfl hl (by decide) rfl (fun ls hl => ?_)
    refine lv_iconst (v := 0) hx hb dX12_insurer_51 (by decide) ?_
    refine lv_istore_n (lv' := [(3, .int 0), (2, .int 0), (0, .ref h0), (1, .int (nI j_b))]) hx hb dX12_insurer_52 rfl hl (by decide) rfl (fun ls hl => ?_)
    refine lv_iconst (v := 0) hx hb dX12_insurer_53 (by decide) ?_
    refine lv_istore (lv' := [(4, .int 0), (3, .int 0), (2, .int 0), (0, .ref h0), (1, .int (nI j_b))]) hx hb dX12_insurer_54 hl (by decide) rfl (fun ls hl => ?_)
    refine lv_aload_n hx hb dX12_insurer_56 rfl (lv_at hl 3 rfl) ?_
    have hPc := hP.sub (ws' := [(h0, .inr (12, mG q 0 (nI ln) i_sort i_what i_at (nI 0) i_worth 0 (-1) i_got i_worked i_deliveries i_isPlanned i_bestDone i_bestCost)), (q 0, .inl (E.2.1 3, 800, .inl a_tape))]) [5, 0] rfl
    have hDc := hD.sub (ws' := [(h0, .inr (12, mG q 0 (nI ln) i_sort i_what i_at (nI 0) i_worth 0 (-1) i_got i_worked i_deliveries i_isPlanned i_bestDone i_bestCost)), (q 0, .inl (E.2.1 3, 800, .inl a_tape))]) [5, 0] (by decide) rfl
    have hFc := va_free (wc := [(h0, .inr (12, mG q 0 (nI ln) i_sort i_what i_at (nI 0) i_worth 0 (-1) i_got i_worked i_deliveries i_isPlanned i_bestDone i_bestCost)), (q 0, .inl (E.2.1 3, 800, .inl a_tape))]) hD hS hA [5, 0] rfl
    refine va_callv (va_runV (As := []) (rest := []) ⟨hx, hb, hml, hown, hts⟩ (c_X12_scan l E h0 q 0 i_sort i_what i_at i_worth 0 (-1) i_got i_worked i_deliveries i_isPlanned i_bestDone i_bestCost ln 0 a_tape H.size (by omega) (by omega)) (cwV 0 hts gX12_insurer_X12_scan rfl rfl rfl hdV_X12_scan ⟨Nat.le_of_ble_eq_true rfl, Nat.le_of_ble_eq_true rfl⟩) ⟨pcW_blind, va_recv hK hPc (ci := 12) (q0 := 0) rfl rfl, (pcW_pre hPc hkn hDc hst hS hFc)⟩ rfl rfl hl.1 rfl (lv_room (Nat.le_of_ble_eq_true rfl)) dX12_insurer_57 ⟨Nat.le_of_ble_eq_true rfl, Nat.le_of_ble_eq_true rfl⟩) hS (fun q _ h => hFc q h) hFc (fun u t H1 locs ht hvm hw_12 hB hz1 hk1 hS => ?_)
    obtain ⟨u_13, u_14, u_15, u_16, u_17⟩ := u
    obtain ⟨hf_18, hf_19, hP1, hD1⟩ := hB
    rw [ht] at hP1
    try dsimp only at hw_12
    obtain ⟨hP, hD⟩ := va_join (wr := [(q 12, .inl (E.2.1 0, 504, .inl a_boxes)), (q 13, .inl (E.2.1 0, 7, .inl f_7)), (q 14, .inl (E.2.1 0, 7, .inl f_9)), (q 15, .inl (E.2.1 0, 7, .inl f_10))]) (w1 := [(h0, .inr (12, mG q 0 (nI ln) u_13 u_14 u_15 (nI u_16) u_17 0 (-1) i_got i_worked i_deliveries i_isPlanned i_bestDone i_bestCost)), (q 0, .inl (E.2.1 3, 800, .inl a_tape))]) hP hD [5, 0] [1, 2, 3, 4] rfl rfl (by decide) (by decide) hk1 hFc hP1 hD1
    generalize H1 = H at hP hS ⊢
    have hP : va_P E.1 vwCl [(q 12, .inl (E.2.1 0, 504, .inl a_boxes)), (q 13, .inl (E.2.1 0, 7, .inl f_7)), (q 14, .inl (E.2.1 0, 7, .inl f_9)), (q 15, .inl (E.2.1 0, 7, .inl f_10)), (h0, .inr (12, mG q 0 (nI ln) u_13 u_14 u_15 (nI u_16) u_17 0 (-1) i_got i_worked i_deliveries i_isPlanned i_bestDone i_bestCost)), (q 0, .inl (E.2.1 3, 800, .inl a_tape))] H := hP
    have hD : va_D A [(q 12, .inl (E.2.1 0, 504, .inl a_boxes)), (q 13, .inl (E.2.1 0, 7, .inl f_7)), (q 14, .inl (E.2.1 0, 7, .inl f_9)), (q 15, .inl (E.2.1 0, 7, .inl f_10)), (h0, .inr (12, mG q 0 (nI ln) u_13 u_14 u_15 (nI u_16) u_17 0 (-1) i_got i_worked i_deliveries i_isPlanned i_bestDone i_bestCost)), (q 0, .inl (E.2.1 3, 800, .inl a_tape))] := hD
    have hPl := hP.sub (ws' := [(h0, .inr (12, mG q 0 (nI ln) u_13 u_14 u_15 (nI u_16) u_17 0 (-1) i_got i_worked i_deliveries i_isPlanned i_bestDone i_bestCost)), (q 0, .inl (E.2.1 3, 800, .inl a_tape)), (q 12, .inl (E.2.1 0, 504, .inl a_boxes)), (q 13, .inl (E.2.1 0, 7, .inl f_7)), (q 14, .inl (E.2.1 0, 7, .inl f_9)), (q 15, .inl (E.2.1 0, 7, .inl f_10))]) [4, 5, 0, 1, 2, 3] rfl
    have hDl := hD.sub (ws' := [(h0, .inr (12, mG q 0 (nI ln) u_13 u_14 u_15 (nI u_16) u_17 0 (-1) i_got i_worked i_deliveries i_isPlanned i_bestDone i_bestCost)), (q 0, .inl (E.2.1 3, 800, .inl a_tape)), (q 12, .inl (E.2.1 0, 504, .inl a_boxes)), (q 13, .inl (E.2.1 0, 7, .inl f_7)), (q 14, .inl (E.2.1 0, 7, .inl f_9)), (q 15, .inl (E.2.1 0, 7, .inl f_10))]) [4, 5, 0, 1, 2, 3] (by decide) rfl
    refine lm_ins1 E h0 q 0 i_worked i_deliveries i_isPlanned i_bestDone i_bestCost ln j_b a_tape hx hb hml hown hts hkn hst hA (by omega) (fun n_20 n_21 n_22 n_23 n_24 n_25 n_26 n_27 n_28 n_29 n_30 n_31 n_32 H locs ls hen hI_boxMany hP hD hS hl => ?_) (fun w_33 w_34 w_35 w_36 w_37 w_38 w_39 w_40 w_41 w_42 w_43 w_44 H locs ls hI_boxMany hP hD hS hl => ?_) (2 * (ln - u_16) + 2) 0 0 0 u_13 u_14 u_15 u_16 u_17 0 (-1) i_got a_boxes f_7 f_9 f_10 _ _ _ (by split <;> omega) (by omega) hI_8 hPl hDl hS (lv_sub hl [3, 4, 2, 1, 0] rfl)
    · have hP : va_P E.1 vwCl [(h0, .inr (12, mG q 0 (nI ln) n_21 n_22 n_23 (nI n_24) n_25 n_26 n_27 n_28 i_worked i_deliveries i_isPlanned i_bestDone i_bestCost)), (q 0, .inl (E.2.1 3, 800, .inl a_tape)), (q 12, .inl (E.2.1 0, 504, .inl n_29)), (q 13, .inl (E.2.1 0, 7, .inl n_30)), (q 14, .inl (E.2.1 0, 7, .inl n_31)), (q 15, .inl (E.2.1 0, 7, .inl n_32))] H := hP
      have hD : va_D A [(h0, .inr (12, mG q 0 (nI ln) n_21 n_22 n_23 (nI n_24) n_25 n_26 n_27 n_28 i_worked i_deliveries i_isPlanned i_bestDone i_bestCost)), (q 0, .inl (E.2.1 3, 800, .inl a_tape)), (q 12, .inl (E.2.1 0, 504, .inl n_29)), (q 13, .inl (E.2.1 0, 7, .inl n_30)), (q 14, .inl (E.2.1 0, 7, .inl n_31)), (q 15, .inl (E.2.1 0, 7, .inl n_32))] := hD
      refine lv_aload_n hx hb dX12_insurer_162 rfl (lv_at hl 0 rfl) ?_
      refine va_get (D := E.1) (ci := 12) (v := .ref (q 13)) (C := RX12) (T := TX12) (N := 59) hx hb hts inX12 hown hK hP 0 rfl rfl 13 (by decide) fl27 (fun _ h9 => h9) rfl dX12_insurer_163 ?_
      refine lv_iload_n hx hb dX12_insurer_166 rfl (lv_at hl 1 rfl) ?_
      refine lv_aload_n hx hb dX12_insurer_167 rfl (lv_at hl 0 rfl) ?_
      refine va_get (D := E.1) (ci := 12) (v := .ref (q 13)) (C := RX12) (T := TX12) (N := 59) hx hb hts inX12 hown hK hP 0 rfl rfl 13 (by decide) fl27 (fun _ h9 => h9) rfl dX12_insurer_168 ?_
      refine lv_bipush (v := 6) hx hb dX12_insurer_171 (by decide) ?_
      refine va_iald hx hb hK hP 3 0 rfl rfl (show vp_in 6 7 from by unfold vp_in; decide) dX12_insurer_173 ?_
      refine lv_topi (fun x_45 ex_45 => ?_)
      have hv_46 : inR x_45 0 12 = true := by rw [ex_45]; exact hI_boxMany _ (vin_cl (show vp_in 6 7 from by unfold vp_in; decide))
      obtain ⟨w_47, hw_48, ew_49⟩ := inR_nI (n := 12) (by decide) hv_46
      subst ew_49
      have hi_50 : vp_in (nI j_b) 7 := vp_in_nI (by omega) (by decide)
      refine va_iast hx hb hK hP hD hS 3 0 rfl rfl hi_50 dX12_insurer_174 (fun H locs hP hD hS => ?_)
      have hP : va_P E.1 vwCl [(h0, .inr (12, mG q 0 (nI ln) n_21 n_22 n_23 (nI n_24) n_25 n_26 n_27 n_28 i_worked i_deliveries i_isPlanned i_bestDone i_bestCost)), (q 0, .inl (E.2.1 3, 800, .inl a_tape)), (q 12, .inl (E.2.1 0, 504, .inl n_29)), (q 13, .inl (E.2.1 0, 7, .inl (upd n_30 (nI j_b).toNatClampNeg (nI w_47)))), (q 14, .inl (E.2.1 0, 7, .inl n_31)), (q 15, .inl (E.2.1 0, 7, .inl n_32))] H := hP
      have hD : va_D A [(h0, .inr (12, mG q 0 (nI ln) n_21 n_22 n_23 (nI n_24) n_25 n_26 n_27 n_28 i_worked i_deliveries i_isPlanned i_bestDone i_bestCost)), (q 0, .inl (E.2.1 3, 800, .inl a_tape)), (q 12, .inl (E.2.1 0, 504, .inl n_29)), (q 13, .inl (E.2.1 0, 7, .inl (upd n_30 (nI j_b).toNatClampNeg (nI w_47)))), (q 14, .inl (E.2.1 0, 7, .inl n_31)), (q 15, .inl (E.2.1 0, 7, .inl n_32))] := hD
      obtain ⟨f_51, ef_51⟩ : ∃ g : Nat → Int32, g = upd n_30 (nI j_b).toNatClampNeg (nI w_47) := ⟨_, rfl⟩
      rw [← ef_51] at hP hD
      have hI_52 : ∀ k : Nat, k < 7 → inR (f_51 k) 0 12 = true := by rw [ef_51]; exact all_upd (P := fun z => inR z 0 12 = true) hI_boxMany (inR_mk (n := 12) (by decide) (by omega))
      refine lv_aload_n hx hb dX12_insurer_175 rfl (lv_at hl 0 rfl) ?_
      refine va_get (D := E.1) (ci := 12) (v := .ref (q 14)) (C := RX12) (T := TX12) (N := 59) hx hb hts inX12 hown hK hP 0 rfl rfl 14 (by decide) fl30 (fun _ h9 => h9) rfl dX12_insurer_176 ?_
      refine lv_iload_n hx hb dX12_insurer_179 rfl (lv_at hl 1 rfl) ?_
      refine lv_aload_n hx hb dX12_insurer_180 rfl (lv_at hl 0 rfl) ?_
      refine va_get (D := E.1) (ci := 12) (v := .ref (q 14)) (C := RX12) (T := TX12) (N := 59) hx hb hts inX12 hown hK hP 0 rfl rfl 14 (by decide) fl30 (fun _ h9 => h9) rfl dX12_insurer_181 ?_
      refine lv_bipush (v := 6) hx hb dX12_insurer_184 (by decide) ?_
      refine va_iald hx hb hK hP 4 0 rfl rfl (show vp_in 6 7 from by unfold vp_in; decide) dX12_insurer_186 ?_
      refine lv_topi (fun x_53 ex_53 => ?_)
      refine va_iast hx hb hK hP hD hS 4 0 rfl rfl hi_50 dX12_insurer_187 (fun H locs hP hD hS => ?_)
      have hP : va_P E.1 vwCl [(h0, .inr (12, mG q 0 (nI ln) n_21 n_22 n_23 (nI n_24) n_25 n_26 n_27 n_28 i_worked i_deliveries i_isPlanned i_bestDone i_bestCost)), (q 0, .inl (E.2.1 3, 800, .inl a_tape)), (q 12, .inl (E.2.1 0, 504, .inl n_29)), (q 13, .inl (E.2.1 0, 7, .inl f_51)), (q 14, .inl (E.2.1 0, 7, .inl (upd n_31 (nI j_b).toNatClampNeg x_53))), (q 15, .inl (E.2.1 0, 7, .inl n_32))] H := hP
      have hD : va_D A [(h0, .inr (12, mG q 0 (nI ln) n_21 n_22 n_23 (nI n_24) n_25 n_26 n_27 n_28 i_worked i_deliveries i_isPlanned i_bestDone i_bestCost)), (q 0, .inl (E.2.1 3, 800, .inl a_tape)), (q 12, .inl (E.2.1 0, 504, .inl n_29)), (q 13, .inl (E.2.1 0, 7, .inl f_51)), (q 14, .inl (E.2.1 0, 7, .inl (upd n_31 (nI j_b).toNatClampNeg x_53))), (q 15, .inl (E.2.1 0, 7, .inl n_32))] := hD
      obtain ⟨f_54, ef_54⟩ : ∃ g : Nat → Int32, g = upd n_31 (nI j_b).toNatClampNeg x_53 := ⟨_, rfl⟩
      rw [← ef_54] at hP hD
      refine lv_aload_n hx hb dX12_insurer_188 rfl (lv_at hl 0 rfl) ?_
      refine va_get (D := E.1) (ci := 12) (v := .ref (q 15)) (C := RX12) (T := TX12) (N := 59) hx hb hts inX12 hown hK hP 0 rfl rfl 15 (by decide) fl33 (fun _ h9 => h9) rfl dX12_insurer_189 ?_
      refine lv_iload_n hx hb dX12_insurer_192 rfl (lv_at hl 1 rfl) ?_
      refine lv_aload_n hx hb dX12_insurer_193 rfl (lv_at hl 0 rfl) ?_
      refine va_get (D := E.1) (ci := 12) (v := .ref (q 15)) (C := RX12) (T := TX12) (N := 59) hx hb hts inX12 hown hK hP 0 rfl rfl 15 (by decide) fl33 (fun _ h9 => h9) rfl dX12_insurer_194 ?_
      refine lv_bipush (v := 6) hx hb dX12_insurer_197 (by decide) ?_
      refine va_iald hx hb hK hP 5 0 rfl rfl (show vp_in 6 7 from by unfold vp_in; decide) dX12_insurer_199 ?_
      refine lv_topi (fun x_55 ex_55 => ?_)
      refine va_iast hx hb hK hP hD hS 5 0 rfl rfl hi_50 dX12_insurer_200 (fun H locs hP hD hS => ?_)
      have hP : va_P E.1 vwCl [(h0, .inr (12, mG q 0 (nI ln) n_21 n_22 n_23 (nI n_24) n_25 n_26 n_27 n_28 i_worked i_deliveries i_isPlanned i_bestDone i_bestCost)), (q 0, .inl (E.2.1 3, 800, .inl a_tape)), (q 12, .inl (E.2.1 0, 504, .inl n_29)), (q 13, .inl (E.2.1 0, 7, .inl f_51)), (q 14, .inl (E.2.1 0, 7, .inl f_54)), (q 15, .inl (E.2.1 0, 7, .inl (upd n_32 (nI j_b).toNatClampNeg x_55)))] H := hP
      have hD : va_D A [(h0, .inr (12, mG q 0 (nI ln) n_21 n_22 n_23 (nI n_24) n_25 n_26 n_27 n_28 i_worked i_deliveries i_isPlanned i_bestDone i_bestCost)), (q 0, .inl (E.2.1 3, 800, .inl a_tape)), (q 12, .inl (E.2.1 0, 504, .inl n_29)), (q 13, .inl (E.2.1 0, 7, .inl f_51)), (q 14, .inl (E.2.1 0, 7, .inl f_54)), (q 15, .inl (E.2.1 0, 7, .inl (upd n_32 (nI j_b).toNatClampNeg x_55)))] := hD
      obtain ⟨f_56, ef_56⟩ : ∃ g : Nat → Int32, g = upd n_32 (nI j_b).toNatClampNeg x_55 := ⟨_, rfl⟩
      rw [← ef_56] at hP hD
      refine lv_iconst (v := 0) hx hb dX12_insurer_201 (by decide) ?_
      refine lv_istore (lv' := [(5, .int 0), (0, .ref h0), (1, .int (nI j_b)), (4, .int n_20)]) hx hb dX12_insurer_202 hl (by decide) rfl (fun ls hl => ?_)
      have hPl := hP.sub (ws' := [(h0, .inr (12, mG q 0 (nI ln) n_21 n_22 n_23 (nI n_24) n_25 n_26 n_27 n_28 i_worked i_deliveries i_isPlanned i_bestDone i_bestCost)), (q 12, .inl (E.2.1 0, 504, .inl n_29)), (q 0, .inl (E.2.1 3, 800, .inl a_tape)), (q 13, .inl (E.2.1 0, 7, .inl f_51)), (q 14, .inl (E.2.1 0, 7, .inl f_54)), (q 15, .inl (E.2.1 0, 7, .inl f_56))]) [0, 2, 1, 3, 4, 5] rfl
      have hDl := hD.sub (ws' := [(h0, .inr (12, mG q 0 (nI ln) n_21 n_22 n_23 (nI n_24) n_25 n_26 n_27 n_28 i_worked i_deliveries i_isPlanned i_bestDone i_bestCost)), (q 12, .inl (E.2.1 0, 504, .inl n_29)), (q 0, .inl (E.2.1 3, 800, .inl a_tape)), (q 13, .inl (E.2.1 0, 7, .inl f_51)), (q 14, .inl (E.2.1 0, 7, .inl f_54)), (q 15, .inl (E.2.1 0, 7, .inl f_56))]) [0, 2, 1, 3, 4, 5] (by decide) rfl
      refine lm_ins2 E h0 q 0 (nI ln) n_21 n_22 n_23 (nI n_24) n_25 n_26 n_27 n_28 i_worked i_deliveries i_isPlanned i_bestDone i_bestCost j_b n_20 ([(q 0, .inl (E.2.1 3, 800, .inl a_tape)), (q 13, .inl (E.2.1 0, 7, .inl f_51)), (q 14, .inl (E.2.1 0, 7, .inl f_54)), (q 15, .inl (E.2.1 0, 7, .inl f_56))]) hx hb hml hown hts hkn hst hA (by omega) (fun n_57 H locs ls  hP hD hS hl => ?_) 73 0 n_29 _ _ _ (by omega) (by omega) hPl hDl hS (lv_sub hl [1, 2, 3, 0] rfl)
      have hP : va_P E.1 vwCl [(h0, .inr (12, mG q 0 (nI ln) n_21 n_22 n_23 (nI n_24) n_25 n_26 n_27 n_28 i_worked i_deliveries i_isPlanned i_bestDone i_bestCost)), (q 12, .inl (E.2.1 0, 504, .inl n_57)), (q 0, .inl (E.2.1 3, 800, .inl a_tape)), (q 13, .inl (E.2.1 0, 7, .inl f_51)), (q 14, .inl (E.2.1 0, 7, .inl f_54)), (q 15, .inl (E.2.1 0, 7, .inl f_56))] H := hP
      have hD : va_D A [(h0, .inr (12, mG q 0 (nI ln) n_21 n_22 n_23 (nI n_24) n_25 n_26 n_27 n_28 i_worked i_deliveries i_isPlanned i_bestDone i_bestCost)), (q 12, .inl (E.2.1 0, 504, .inl n_57)), (q 0, .inl (E.2.1 3, 800, .inl a_tape)), (q 13, .inl (E.2.1 0, 7, .inl f_51)), (q 14, .inl (E.2.1 0, 7, .inl f_54)), (q 15, .inl (E.2.1 0, 7, .inl f_56))] := hD
      refine lv_iload hx hb dX12_insurer_240 (lv_at hl 1 rfl) ?_
      have hP9 := hP.sub (ws' := [(h0, .inr (12, mG q 0 (nI ln) n_21 n_22 n_23 (nI n_24) n_25 n_26 n_27 n_28 i_worked i_deliveries i_isPlanned i_bestDone i_bestCost)), (q 0, .inl (E.2.1 3, 800, .inl a_tape)), (q 12, .inl (E.2.1 0, 504, .inl n_57)), (q 13, .inl (E.2.1 0, 7, .inl f_51)), (q 14, .inl (E.2.1 0, 7, .inl f_54)), (q 15, .inl (E.2.1 0, 7, .inl f_56))]) [0, 2, 1, 3, 4, 5] rfl
      have hD9 := hD.sub (ws' := [(h0, .inr (12, mG q 0 (nI ln) n_21 n_22 n_23 (nI n_24) n_25 n_26 n_27 n_28 i_worked i_deliveries i_isPlanned i_bestDone i_bestCost)), (q 0, .inl (E.2.1 3, 800, .inl a_tape)), (q 12, .inl (E.2.1 0, 504, .inl n_57)), (q 13, .inl (E.2.1 0, 7, .inl f_51)), (q 14, .inl (E.2.1 0, 7, .inl f_54)), (q 15, .inl (E.2.1 0, 7, .inl f_56))]) [0, 2, 1, 3, 4, 5] (by decide) rfl
      exact W.iret (v := n_20) hx hb hr (fun t ht hW => ⟨⟨n_20, (n_21, n_22, n_23, n_25, n_26, n_27, n_28, nI n_24, nI ln, n_57, f_51, f_54, f_56), rfl, trivial, hI_52, by rw [ht]; exact hP9, hD9⟩, hS.F ht⟩) hS.2.2 dX12_insurer_242
    · have hP : va_P E.1 vwCl [(h0, .inr (12, mG q 0 (nI ln) w_33 w_34 w_35 (nI w_36) w_37 w_38 w_39 w_40 i_worked i_deliveries i_isPlanned i_bestDone i_bestCost)), (q 0, .inl (E.2.1 3, 800, .inl a_tape)), (q 12, .inl (E.2.1 0, 504, .inl w_41)), (q 13, .inl (E.2.1 0, 7, .inl w_42)), (q 14, .inl (E.2.1 0, 7, .inl w_43)), (q 15, .inl (E.2.1 0, 7, .inl w_44))] H := hP
      have hD : va_D A [(h0, .inr (12, mG q 0 (nI ln) w_33 w_34 w_35 (nI w_36) w_37 w_38 w_39 w_40 i_worked i_deliveries i_isPlanned i_bestDone i_bestCost)), (q 0, .inl (E.2.1 3, 800, .inl a_tape)), (q 12, .inl (E.2.1 0, 504, .inl w_41)), (q 13, .inl (E.2.1 0, 7, .inl w_42)), (q 14, .inl (E.2.1 0, 7, .inl w_43)), (q 15, .inl (E.2.1 0, 7, .inl w_44))] := hD
      refine lv_iconst (v := (-1)) hx hb dX12_insurer_124 (by decide) ?_
      have hP9 := hP.sub (ws' := [(h0, .inr (12, mG q 0 (nI ln) w_33 w_34 w_35 (nI w_36) w_37 w_38 w_39 w_40 i_worked i_deliveries i_isPlanned i_bestDone i_bestCost)), (q 0, .inl (E.2.1 3, 800, .inl a_tape)), (q 12, .inl (E.2.1 0, 504, .inl w_41)), (q 13, .inl (E.2.1 0, 7, .inl w_42)), (q 14, .inl (E.2.1 0, 7, .inl w_43)), (q 15, .inl (E.2.1 0, 7, .inl w_44))]) [0, 1, 2, 3, 4, 5] rfl
      have hD9 := hD.sub (ws' := [(h0, .inr (12, mG q 0 (nI ln) w_33 w_34 w_35 (nI w_36) w_37 w_38 w_39 w_40 i_worked i_deliveries i_isPlanned i_bestDone i_bestCost)), (q 0, .inl (E.2.1 3, 800, .inl a_tape)), (q 12, .inl (E.2.1 0, 504, .inl w_41)), (q 13, .inl (E.2.1 0, 7, .inl w_42)), (q 14, .inl (E.2.1 0, 7, .inl w_43)), (q 15, .inl (E.2.1 0, 7, .inl w_44))]) [0, 1, 2, 3, 4, 5] (by decide) rfl
      exact W.iret (v := (-1)) hx hb hr (fun t ht hW => ⟨⟨(-1), (w_33, w_34, w_35, w_37, w_38, w_39, w_40, nI w_36, nI ln, w_41, w_42, w_43, w_44), rfl, trivial, hI_boxMany, by rw [ht]; exact hP9, hD9⟩, hS.F ht⟩) hS.2.2 dX12_insurer_125
  · have b_58 : inR b 0 5 = false := bz hw_4 c_5
    refine lv_bipush (v := (-2)) hx hb dX12_insurer_11 (by decide) ?_
    have hP9 := hP.sub (ws' := [(h0, .inr (12, mG q 0 (nI ln) i_sort i_what i_at 0 i_worth i_faultKind i_faultPlace i_got i_worked i_deliveries i_isPlanned i_bestDone i_bestCost)), (q 0, .inl (E.2.1 3, 800, .inl a_tape)), (q 12, .inl (E.2.1 0, 504, .inl a_boxes)), (q 13, .inl (E.2.1 0, 7, .inl a_boxMany)), (q 14, .inl (E.2.1 0, 7, .inl a_minCrew)), (q 15, .inl (E.2.1 0, 7, .inl a_maxForce))]) [5, 0, 1, 2, 3, 4] rfl
    have hD9 := hD.sub (ws' := [(h0, .inr (12, mG q 0 (nI ln) i_sort i_what i_at 0 i_worth i_faultKind i_faultPlace i_got i_worked i_deliveries i_isPlanned i_bestDone i_bestCost)), (q 0, .inl (E.2.1 3, 800, .inl a_tape)), (q 12, .inl (E.2.1 0, 504, .inl a_boxes)), (q 13, .inl (E.2.1 0, 7, .inl a_boxMany)), (q 14, .inl (E.2.1 0, 7, .inl a_minCrew)), (q 15, .inl (E.2.1 0, 7, .inl a_maxForce))]) [5, 0, 1, 2, 3, 4] (by decide) rfl
    exact W.iret (v := (-2)) hx hb hr (fun t ht hW => ⟨⟨(-2), (i_sort, i_what, i_at, i_worth, i_faultKind, i_faultPlace, i_got, 0, nI ln, a_boxes, a_boxMany, a_minCrew, a_maxForce), rfl, trivial, hI_boxMany, by rw [ht]; exact hP9, hD9⟩, hS.F ht⟩) hS.2.2 dX12_insurer_13
