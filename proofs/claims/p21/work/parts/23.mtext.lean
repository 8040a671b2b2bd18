set_option maxHeartbeats 4000000 in
set_option maxRecDepth 100000 in
theorem c_X12_readRule (l : Launch) (E : vE) (h0 : Nat) (q : Nat → Nat) (i_taped : Int32) (i_sort : Int32) (i_what : Int32) (i_at : Int32) (i_worth : Int32) (i_faultKind : Int32) (i_faultPlace : Int32) (i_got : Int32) (i_worked : Int32) (i_deliveries : Int32) (i_isPlanned : Int32) (i_bestDone : Int32) (i_bestCost : Int32) (sz9 : Nat) (en9 : Nat) (a_tape : Nat → Int32) (a_rules : Nat → Int32) (a_ruleMany : Nat → Int32) (sz : Nat) (hsz : sz9 ≤ 800) (hen : en9 ≤ sz9) (hI_ruleMany : ∀ k : Nat, k < 7 → inR (a_ruleMany k) 0 12 = true) : Met l yX12_readRule wsX12_readRule ({ frames := 7, cells := 0, slots := 0, locals := 157 }) (pcW E [.ref h0] sz [(h0, .inr (12, mG q i_taped (nI sz9) i_sort i_what i_at (nI en9) i_worth i_faultKind i_faultPlace i_got i_worked i_deliveries i_isPlanned i_bestDone i_bestCost)), (q 0, .inl (E.2.1 3, 800, .inl a_tape)), (q 10, .inl (E.2.1 0, 336, .inl a_rules)), (q 11, .inl (E.2.1 0, 7, .inl a_ruleMany))]) (va_Qi (fun (r : Int32) (u : Int32 × Int32 × Int32 × Nat × Int32 × Int32 × Int32 × Int32 × (Nat → Int32) × (Nat → Int32)) => match u with | (so2, wh2, at2, en2, wo2, fk2, fp2, go2, b_rules, b_ruleMany) => (r = 0 ∨ r = 1) ∧ (r = 0 ∨ so2 = 4 ∨ en9 < en2)) (fun (u : Int32 × Int32 × Int32 × Nat × Int32 × Int32 × Int32 × Int32 × (Nat → Int32) × (Nat → Int32)) (t : State) => match u with | (so2, wh2, at2, en2, wo2, fk2, fp2, go2, b_rules, b_ruleMany) => (∀ k : Nat, k < 7 → inR (b_ruleMany k) 0 12 = true) ∧ (en9 ≤ en2 ∧ en2 ≤ sz9) ∧ wB E (va_A [(h0, .inr (12, mG q i_taped (nI sz9) i_sort i_what i_at (nI en9) i_worth i_faultKind i_faultPlace i_got i_worked i_deliveries i_isPlanned i_bestDone i_bestCost)), (q 0, .inl (E.2.1 3, 800, .inl a_tape)), (q 10, .inl (E.2.1 0, 336, .inl a_rules)), (q 11, .inl (E.2.1 0, 7, .inl a_ruleMany))] sz) [(h0, .inr (12, mG q i_taped (nI sz9) so2 wh2 at2 (nI en2) wo2 fk2 fp2 go2 i_worked i_deliveries i_isPlanned i_bestDone i_bestCost)), (q 0, .inl (E.2.1 3, 800, .inl a_tape)), (q 10, .inl (E.2.1 0, 336, .inl b_rules)), (q 11, .inl (E.2.1 0, 7, .inl b_ruleMany))] t) (va_A [(h0, .inr (12, mG q i_taped (nI sz9) i_sort i_what i_at (nI en9) i_worth i_faultKind i_faultPlace i_got i_worked i_deliveries i_isPlanned i_bestDone i_bestCost)), (q 0, .inl (E.2.1 3, 800, .inl a_tape)), (q 10, .inl (E.2.1 0, 336, .inl a_rules)), (q 11, .inl (E.2.1 0, 7, .inl a_ruleMany))] sz)) 0 0 (va_A [(h0, .inr (12, mG q i_taped (nI sz9) i_sort i_what i_at (nI en9) i_worth i_faultKind i_faultPlace i_got i_worked i_deliveries i_isPlanned i_bestDone i_bestCost)), (q 0, .inl (E.2.1 3, 800, .inl a_tape)), (q 10, .inl (E.2.1 0, 336, .inl a_rules)), (q 11, .inl (E.2.1 0, 7, .inl a_ruleMany))] sz) := by
  refine Met.ofW (cc := cX12_readRule) (maxL := 2) (ret := (some .boolean)) (by decide) rfl ?_
  intro p e s m args below meth c s₁ B hml hv
  obtain ⟨rfl, hsz, hP, hkn, hD0, hst⟩ := hv
  have hx := B.exec
  have hb := B.bytes
  have hr := B.returns
  have hts := atoms_spec (ws := wsX12_readRule) B.pre
  have hown : s.vm.findClass RX12 = some m.cls := findClass_of_methodNamed B.named
  have hlocks := B.notSynchronized
  subst hsz
  have hD := hD0.self (sz := s.heap.size)
  have hK := hkn.1
  have hAO := hkn.2.2.1
  generalize hAe : va_A [(h0, .inr (12, mG q i_taped (nI sz9) i_sort i_what i_at (nI en9) i_worth i_faultKind i_faultPlace i_got i_worked i_deliveries i_isPlanned i_bestDone i_bestCost)), (q 0, .inl (E.2.1 3, 800, .inl a_tape)), (q 10, .inl (E.2.1 0, 336, .inl a_rules)), (q 11, .inl (E.2.1 0, 7, .inl a_ruleMany))] s.heap.size = A at hD hst ⊢
  have hA : ∀ q : Nat, s.heap.size ≤ q → A q := fun q h => by rw [← hAe]; exact Or.inr h
  have hS : va_S A s.heap s.heap [] := va_S.rf
  have hP : va_P E.1 vwCl [(h0, .inr (12, mG q i_taped (nI sz9) i_sort i_what i_at (nI en9) i_worth i_faultKind i_faultPlace i_got i_worked i_deliveries i_isPlanned i_bestDone i_bestCost)), (q 0, .inl (E.2.1 3, 800, .inl a_tape)), (q 10, .inl (E.2.1 0, 336, .inl a_rules)), (q 11, .inl (E.2.1 0, 7, .inl a_ruleMany))] s.heap := hP
  have hl := lv_entry ([.ref h0]) (n := 2) (Nat.le_of_ble_eq_true rfl)
  rw [lg_entry_eq]
  generalize (lg_sl ([.ref h0]) ++ List.replicate (2 - (lg_sl ([.ref h0])).length) Slot.unset).toArray = ls at hl ⊢
  have hl : lv_has ls 2 [(0, .ref h0)] := hl
  have fl17 := hts (.fieldLink RX12 17 "BoatsHomeModel" "rules" "[I") (by first | exact List.mem_of_getElem? (i := 4) rfl | decide +kernel)
  have fl21 := hts (.fieldLink RX12 21 "BoatsHomeModel" "ruleMany" "[I") (by first | exact List.mem_of_getElem? (i := 3) rfl | decide +kernel)
  have fl180 := hts (.fieldLink RX12 180 "BoatsHomeModel" "sort" "I") (by first | exact List.mem_of_getElem? (i := 1) rfl | decide +kernel)
  have fl191 := hts (.fieldLink RX12 191 "BoatsHomeModel" "what" "I") (by first | exact List.mem_of_getElem? (i := 2) rfl | decide +kernel)
  have fl206 := hts (.fieldLink RX12 206 "BoatsHomeModel" "got" "I") (by first | exact List.mem_of_getElem? (i := 5) rfl | decide +kernel)
  have inX12 : ∀ w ∈ u_ws RX12 TX12 59, w ∈ wsX12_readRule := by first | exact fun w h9 => (List.mem_cons_of_mem _ (List.mem_append_right _ h9)) | decide +kernel
  refine lv_aload_n hx hb dX12_readRule_0 rfl (lv_at hl 0 rfl) ?_
  refine va_get (D := E.1) (ci := 12) (v := .int i_sort) (C := RX12) (T := TX12) (N := 59) hx hb hts inX12 hown hK hP 0 rfl rfl 3 (by decide) fl180 (fun _ h9 => h9) rfl dX12_readRule_1 ?_
  refine lv_iconst (v := 1) hx hb dX12_readRule_4 (by decide) ?_
  refine lv_icmp_ne (tgt := 15) hx hb dX12_readRule_5 (by decide) (fun c_1 => ?_) (fun c_1 => ?_)
  · refine lv_aload_n hx hb dX12_readRule_15 rfl (lv_at hl 0 rfl) ?_
    refine lv_iconst (v := 1) hx hb dX12_readRule_16 (by decide) ?_
    have hPc := hP.sub (ws' := [(h0, .inr (12, mG q i_taped (nI sz9) i_sort i_what i_at (nI en9) i_worth i_faultKind i_faultPlace i_got i_worked i_deliveries i_isPlanned i_bestDone i_bestCost))]) [0] rfl
    have hDc := hD.sub (ws' := [(h0, .inr (12, mG q i_taped (nI sz9) i_sort i_what i_at (nI en9) i_worth i_faultKind i_faultPlace i_got i_worked i_deliveries i_isPlanned i_bestDone i_bestCost))]) [0] (by decide) rfl
    have hFc := va_free (wc := [(h0, .inr (12, mG q i_taped (nI sz9) i_sort i_what i_at (nI en9) i_worth i_faultKind i_faultPlace i_got i_worked i_deliveries i_isPlanned i_bestDone i_bestCost))]) hD hS hA [0] rfl
    refine va_calli (va_runV (As := [.int 1]) (rest := []) ⟨hx, hb, hml, hown, hts⟩ (c_X12_wrong l E h0 q i_taped (nI sz9) i_sort i_what i_at (nI en9) i_worth i_faultKind i_faultPlace i_got i_worked i_deliveries i_isPlanned i_bestDone i_bestCost 1 s.heap.size ) (cwV 1 hts gX12_readRule_X12_wrong rfl rfl rfl hdV_X12_wrong ⟨Nat.le_of_ble_eq_true rfl, Nat.le_of_ble_eq_true rfl⟩) ⟨pcW_blind, va_recv hK hPc (ci := 12) (q0 := 0) rfl rfl, (pcW_pre hPc hkn hDc hst hS hFc)⟩ rfl rfl hl.1 rfl (lv_room (Nat.le_of_ble_eq_true rfl)) dX12_readRule_17 ⟨Nat.le_of_ble_eq_true rfl, Nat.le_of_ble_eq_true rfl⟩) hS (fun q _ h => hFc q h) hFc (fun r_2 u t H1 locs ht hvm hw_3 hB hz1 hk1 hS => ?_)
    obtain ⟨hP1, hD1⟩ := hB
    rw [ht] at hP1
    try dsimp only at hw_3
    obtain ⟨hP, hD⟩ := va_join (wr := [(q 0, .inl (E.2.1 3, 800, .inl a_tape)), (q 10, .inl (E.2.1 0, 336, .inl a_rules)), (q 11, .inl (E.2.1 0, 7, .inl a_ruleMany))]) (w1 := [(h0, .inr (12, mG q i_taped (nI sz9) i_sort i_what i_at (nI en9) i_worth 1 i_at i_got i_worked i_deliveries i_isPlanned i_bestDone i_bestCost))]) hP hD [0] [1, 2, 3] rfl rfl (by decide) (by decide) hk1 hFc hP1 hD1
    generalize H1 = H at hP hS ⊢
    have hP : va_P E.1 vwCl [(q 0, .inl (E.2.1 3, 800, .inl a_tape)), (q 10, .inl (E.2.1 0, 336, .inl a_rules)), (q 11, .inl (E.2.1 0, 7, .inl a_ruleMany)), (h0, .inr (12, mG q i_taped (nI sz9) i_sort i_what i_at (nI en9) i_worth 1 i_at i_got i_worked i_deliveries i_isPlanned i_bestDone i_bestCost))] H := hP
    have hD : va_D A [(q 0, .inl (E.2.1 3, 800, .inl a_tape)), (q 10, .inl (E.2.1 0, 336, .inl a_rules)), (q 11, .inl (E.2.1 0, 7, .inl a_ruleMany)), (h0, .inr (12, mG q i_taped (nI sz9) i_sort i_what i_at (nI en9) i_worth 1 i_at i_got i_worked i_deliveries i_isPlanned i_bestDone i_bestCost))] := hD
    obtain rfl : r_2 = 0 := hw_3
    have hP9 := hP.sub (ws' := [(h0, .inr (12, mG q i_taped (nI sz9) i_sort i_what i_at (nI en9) i_worth 1 i_at i_got i_worked i_deliveries i_isPlanned i_bestDone i_bestCost)), (q 0, .inl (E.2.1 3, 800, .inl a_tape)), (q 10, .inl (E.2.1 0, 336, .inl a_rules)), (q 11, .inl (E.2.1 0, 7, .inl a_ruleMany))]) [3, 0, 1, 2] rfl
    have hD9 := hD.sub (ws' := [(h0, .inr (12, mG q i_taped (nI sz9) i_sort i_what i_at (nI en9) i_worth 1 i_at i_got i_worked i_deliveries i_isPlanned i_bestDone i_bestCost)), (q 0, .inl (E.2.1 3, 800, .inl a_tape)), (q 10, .inl (E.2.1 0, 336, .inl a_rules)), (q 11, .inl (E.2.1 0, 7, .inl a_ruleMany))]) [3, 0, 1, 2] (by decide) rfl
    exact W.zret (v := 0) hx hb hr (by decide) (fun t ht hW => ⟨⟨0, (i_sort, i_what, i_at, en9, i_worth, 1, i_at, i_got, a_rules, a_ruleMany), rfl, ⟨Or.inl rfl, Or.inl rfl⟩, hI_ruleMany, (by omega), by rw [ht]; exact hP9, hD9⟩, hS.F ht⟩) hS.2.2 dX12_readRule_20
  · refine lv_aload_n hx hb dX12_readRule_8 rfl (lv_at hl 0 rfl) ?_
    refine va_get (D := E.1) (ci := 12) (v := .int i_what) (C := RX12) (T := TX12) (N := 59) hx hb hts inX12 hown hK hP 0 rfl rfl 4 (by decide) fl191 (fun _ h9 => h9) rfl dX12_readRule_9 ?_
    refine lv_if_eq (tgt := 21) hx hb dX12_readRule_12 (by decide) (fun c_4 => ?_) (fun c_4 => ?_)
    · refine lv_aload_n hx hb dX12_readRule_21 rfl (lv_at hl 0 rfl) ?_
      refine va_get (D := E.1) (ci := 12) (v := .ref (q 11)) (C := RX12) (T := TX12) (N := 59) hx hb hts inX12 hown hK hP 0 rfl rfl 11 (by decide) fl21 (fun _ h9 => h9) rfl dX12_readRule_22 ?_
      refine lv_bipush (v := 6) hx hb dX12_readRule_25 (by decide) ?_
      refine va_iald hx hb hK hP 3 0 rfl rfl (show vp_in 6 7 from by unfold vp_in; decide) dX12_readRule_27 ?_
      refine lv_topi (fun x_5 ex_5 => ?_)
      have hv_6 : inR x_5 0 12 = true := by rw [ex_5]; exact hI_ruleMany _ (vin_cl (show vp_in 6 7 from by unfold vp_in; decide))
      obtain ⟨w_7, hw_8, ew_9⟩ := inR_nI (n := 12) (by decide) hv_6
      subst ew_9
      refine lv_bipush (v := 12) hx hb dX12_readRule_28 (by decide) ?_
      refine lv_icmp_ne (tgt := 39) hx hb dX12_readRule_30 (by decide) (fun c_10 => ?_) (fun c_10 => ?_)
      · have hw12 : w_7 < 12 := by
          rcases Nat.lt_or_ge w_7 12 with q | q
          · exact q
          · exact absurd (by rw [show w_7 = 12 by omega]; rfl) c_10
        refine lv_iconst (v := 4) hx hb dX12_readRule_39 (by decide) ?_
        refine lv_bipush (v := 72) hx hb dX12_readRule_40 (by decide) ?_
        refine lv_aload_n hx hb dX12_readRule_42 rfl (lv_at hl 0 rfl) ?_
        refine va_get (D := E.1) (ci := 12) (v := .ref (q 11)) (C := RX12) (T := TX12) (N := 59) hx hb hts inX12 hown hK hP 0 rfl rfl 11 (by decide) fl21 (fun _ h9 => h9) rfl dX12_readRule_43 ?_
        refine lv_bipush (v := 6) hx hb dX12_readRule_46 (by decide) ?_
        refine va_iald hx hb hK hP 3 0 rfl rfl (show vp_in 6 7 from by unfold vp_in; decide) dX12_readRule_48 ?_
        refine lv_topi (fun x_11 ex_11 => ?_)
        obtain rfl : x_11 = nI w_7 := ex_11.trans ex_5.symm
        refine lv_iadd hx hb dX12_readRule_49 ?_
        refine lv_topi (fun x_12 ex_12 => ?_)
        obtain rfl : x_12 = nI (72 + w_7) := ex_12.trans (nI_add 72 w_7)
        refine lv_imul hx hb dX12_readRule_50 ?_
        refine lv_topi (fun x_13 ex_13 => ?_)
        obtain rfl : x_13 = nI (4 * (72 + w_7)) := ex_13.trans (pk_mul 4 (72 + w_7))
        refine lv_istore_n (lv' := [(1, .int (nI (4 * (72 + w_7)))), (0, .ref h0)]) hx hb dX12_readRule_51 rfl hl (by decide) rfl (fun ls hl => ?_)
        refine lv_aload_n hx hb dX12_readRule_52 rfl (lv_at hl 1 rfl) ?_
        have hPc := hP.sub (ws' := [(h0, .inr (12, mG q i_taped (nI sz9) i_sort i_what i_at (nI en9) i_worth i_faultKind i_faultPlace i_got i_worked i_deliveries i_isPlanned i_bestDone i_bestCost)), (q 0, .inl (E.2.1 3, 800, .inl a_tape))]) [0, 1] rfl
        have hDc := hD.sub (ws' := [(h0, .inr (12, mG q i_taped (nI sz9) i_sort i_what i_at (nI en9) i_worth i_faultKind i_faultPlace i_got i_worked i_deliveries i_isPlanned i_bestDone i_bestCost)), (q 0, .inl (E.2.1 3, 800, .inl a_tape))]) [0, 1] (by decide) rfl
        have hFc := va_free (wc := [(h0, .inr (12, mG q i_taped (nI sz9) i_sort i_what i_at (nI en9) i_worth i_faultKind i_faultPlace i_got i_worked i_deliveries i_isPlanned i_bestDone i_bestCost)), (q 0, .inl (E.2.1 3, 800, .inl a_tape))]) hD hS hA [0, 1] rfl
        refine va_callv (va_runV (As := []) (rest := []) ⟨hx, hb, hml, hown, hts⟩ (c_X12_scan l E h0 q i_taped i_sort i_what i_at i_worth i_faultKind i_faultPlace i_got i_worked i_deliveries i_isPlanned i_bestDone i_bestCost sz9 en9 a_tape s.heap.size (by omega) (by omega)) (cwV 0 hts gX12_readRule_X12_scan rfl rfl rfl hdV_X12_scan ⟨Nat.le_of_ble_eq_true rfl, Nat.le_of_ble_eq_true rfl⟩) ⟨pcW_blind, va_recv hK hPc (ci := 12) (q0 := 0) rfl rfl, (pcW_pre hPc hkn hDc hst hS hFc)⟩ rfl rfl hl.1 rfl (lv_room (Nat.le_of_ble_eq_true rfl)) dX12_readRule_53 ⟨Nat.le_of_ble_eq_true rfl, Nat.le_of_ble_eq_true rfl⟩) hS (fun q _ h => hFc q h) hFc (fun u t H1 locs ht hvm hw_15 hB hz1 hk1 hS => ?_)
        obtain ⟨u_16, u_17, u_18, u_19, u_20⟩ := u
        obtain ⟨hf_21, hf_22, hP1, hD1⟩ := hB
        rw [ht] at hP1
        try dsimp only at hw_15
        obtain ⟨hP, hD⟩ := va_join (wr := [(q 10, .inl (E.2.1 0, 336, .inl a_rules)), (q 11, .inl (E.2.1 0, 7, .inl a_ruleMany))]) (w1 := [(h0, .inr (12, mG q i_taped (nI sz9) u_16 u_17 u_18 (nI u_19) u_20 i_faultKind i_faultPlace i_got i_worked i_deliveries i_isPlanned i_bestDone i_bestCost)), (q 0, .inl (E.2.1 3, 800, .inl a_tape))]) hP hD [0, 1] [2, 3] rfl rfl (by decide) (by decide) hk1 hFc hP1 hD1
        generalize H1 = H at hP hS ⊢
        have hP : va_P E.1 vwCl [(q 10, .inl (E.2.1 0, 336, .inl a_rules)), (q 11, .inl (E.2.1 0, 7, .inl a_ruleMany)), (h0, .inr (12, mG q i_taped (nI sz9) u_16 u_17 u_18 (nI u_19) u_20 i_faultKind i_faultPlace i_got i_worked i_deliveries i_isPlanned i_bestDone i_bestCost)), (q 0, .inl (E.2.1 3, 800, .inl a_tape))] H := hP
        have hD : va_D A [(q 10, .inl (E.2.1 0, 336, .inl a_rules)), (q 11, .inl (E.2.1 0, 7, .inl a_ruleMany)), (h0, .inr (12, mG q i_taped (nI sz9) u_16 u_17 u_18 (nI u_19) u_20 i_faultKind i_faultPlace i_got i_worked i_deliveries i_isPlanned i_bestDone i_bestCost)), (q 0, .inl (E.2.1 3, 800, .inl a_tape))] := hD
        refine lv_aload_n hx hb dX12_readRule_56 rfl (lv_at hl 1 rfl) ?_
        refine lv_iconst (v := 1) hx hb dX12_readRule_57 (by decide) ?_
        refine lv_iconst (v := 4) hx hb dX12_readRule_58 (by decide) ?_
        have hPc := hP.sub (ws' := [(h0, .inr (12, mG q i_taped (nI sz9) u_16 u_17 u_18 (nI u_19) u_20 i_faultKind i_faultPlace i_got i_worked i_deliveries i_isPlanned i_bestDone i_bestCost)), (q 0, .inl (E.2.1 3, 800, .inl a_tape))]) [2, 3] rfl
        have hDc := hD.sub (ws' := [(h0, .inr (12, mG q i_taped (nI sz9) u_16 u_17 u_18 (nI u_19) u_20 i_faultKind i_faultPlace i_got i_worked i_deliveries i_isPlanned i_bestDone i_bestCost)), (q 0, .inl (E.2.1 3, 800, .inl a_tape))]) [2, 3] (by decide) rfl
        have hFc := va_free (wc := [(h0, .inr (12, mG q i_taped (nI sz9) u_16 u_17 u_18 (nI u_19) u_20 i_faultKind i_faultPlace i_got i_worked i_deliveries i_isPlanned i_bestDone i_bestCost)), (q 0, .inl (E.2.1 3, 800, .inl a_tape))]) hD hS hA [2, 3] rfl
        refine va_calli (va_runV (As := [.int 1, .int 4]) (rest := []) ⟨hx, hb, hml, hown, hts⟩ (c_X12_word l E h0 q i_taped u_16 u_17 u_18 u_20 i_faultKind i_faultPlace i_got i_worked i_deliveries i_isPlanned i_bestDone i_bestCost sz9 u_19 a_tape 1 4 H.size (by omega) (by omega)) (cwV 2 hts gX12_readRule_X12_word rfl rfl rfl hdV_X12_word ⟨Nat.le_of_ble_eq_true rfl, Nat.le_of_ble_eq_true rfl⟩) ⟨pcW_blind, va_recv hK hPc (ci := 12) (q0 := 0) rfl rfl, (pcW_pre hPc hkn hDc hst hS hFc)⟩ rfl rfl hl.1 rfl (lv_room (Nat.le_of_ble_eq_true rfl)) dX12_readRule_59 ⟨Nat.le_of_ble_eq_true rfl, Nat.le_of_ble_eq_true rfl⟩) hS (fun q _ h => hFc q h) hFc (fun r_23 u t H1 locs ht hvm hw_24 hB hz1 hk1 hS => ?_)
        obtain ⟨u_25, u_26, u_27, u_28, u_29, u_30, u_31, u_32⟩ := u
        obtain ⟨hf_33, hP1, hD1⟩ := hB
        rw [ht] at hP1
        try dsimp only at hw_24
        obtain ⟨hP, hD⟩ := va_join (wr := [(q 10, .inl (E.2.1 0, 336, .inl a_rules)), (q 11, .inl (E.2.1 0, 7, .inl a_ruleMany))]) (w1 := [(h0, .inr (12, mG q i_taped (nI sz9) u_25 u_26 u_27 (nI u_28) u_29 u_30 u_31 u_32 i_worked i_deliveries i_isPlanned i_bestDone i_bestCost)), (q 0, .inl (E.2.1 3, 800, .inl a_tape))]) hP hD [2, 3] [0, 1] rfl rfl (by decide) (by decide) hk1 hFc hP1 hD1
        generalize H1 = H at hP hS ⊢
        have hP : va_P E.1 vwCl [(q 10, .inl (E.2.1 0, 336, .inl a_rules)), (q 11, .inl (E.2.1 0, 7, .inl a_ruleMany)), (h0, .inr (12, mG q i_taped (nI sz9) u_25 u_26 u_27 (nI u_28) u_29 u_30 u_31 u_32 i_worked i_deliveries i_isPlanned i_bestDone i_bestCost)), (q 0, .inl (E.2.1 3, 800, .inl a_tape))] H := hP
        have hD : va_D A [(q 10, .inl (E.2.1 0, 336, .inl a_rules)), (q 11, .inl (E.2.1 0, 7, .inl a_ruleMany)), (h0, .inr (12, mG q i_taped (nI sz9) u_25 u_26 u_27 (nI u_28) u_29 u_30 u_31 u_32 i_worked i_deliveries i_isPlanned i_bestDone i_bestCost)), (q 0, .inl (E.2.1 3, 800, .inl a_tape))] := hD
        refine lv_if_ne (tgt := 67) hx hb dX12_readRule_62 (by decide) (fun c_34 => ?_) (fun c_34 => ?_)
        · refine lv_aload_n hx hb dX12_readRule_67 rfl (lv_at hl 1 rfl) ?_
          refine va_get (D := E.1) (ci := 12) (v := .ref (q 10)) (C := RX12) (T := TX12) (N := 59) hx hb hts inX12 hown hK hP 2 rfl rfl 10 (by decide) fl17 (fun _ h9 => h9) rfl dX12_readRule_68 ?_
          refine lv_iload_n hx hb dX12_readRule_71 rfl (lv_at hl 0 rfl) ?_
          refine lv_aload_n hx hb dX12_readRule_72 rfl (lv_at hl 1 rfl) ?_
          refine va_get (D := E.1) (ci := 12) (v := .int u_32) (C := RX12) (T := TX12) (N := 59) hx hb hts inX12 hown hK hP 2 rfl rfl 16 (by decide) fl206 (fun _ h9 => h9) rfl dX12_readRule_73 ?_
          refine lv_iconst (v := 1) hx hb dX12_readRule_76 (by decide) ?_
          refine lv_isub hx hb dX12_readRule_77 ?_
          refine lv_topi (fun x_35 ex_35 => ?_)
          have hi_36 : vp_in (nI (4 * (72 + w_7))) 336 := vp_in_nI (by omega) (by decide)
          refine va_iast hx hb hK hP hD hS 0 0 rfl rfl hi_36 dX12_readRule_78 (fun H locs hP hD hS => ?_)
          have hP : va_P E.1 vwCl [(q 10, .inl (E.2.1 0, 336, .inl (upd a_rules (nI (4 * (72 + w_7))).toNatClampNeg x_35))), (q 11, .inl (E.2.1 0, 7, .inl a_ruleMany)), (h0, .inr (12, mG q i_taped (nI sz9) u_25 u_26 u_27 (nI u_28) u_29 u_30 u_31 u_32 i_worked i_deliveries i_isPlanned i_bestDone i_bestCost)), (q 0, .inl (E.2.1 3, 800, .inl a_tape))] H := hP
          have hD : va_D A [(q 10, .inl (E.2.1 0, 336, .inl (upd a_rules (nI (4 * (72 + w_7))).toNatClampNeg x_35))), (q 11, .inl (E.2.1 0, 7, .inl a_ruleMany)), (h0, .inr (12, mG q i_taped (nI sz9) u_25 u_26 u_27 (nI u_28) u_29 u_30 u_31 u_32 i_worked i_deliveries i_isPlanned i_bestDone i_bestCost)), (q 0, .inl (E.2.1 3, 800, .inl a_tape))] := hD
          obtain ⟨f_37, ef_37⟩ : ∃ g : Nat → Int32, g = upd a_rules (nI (4 * (72 + w_7))).toNatClampNeg x_35 := ⟨_, rfl⟩
          rw [← ef_37] at hP hD
          refine lv_aload_n hx hb dX12_readRule_79 rfl (lv_at hl 1 rfl) ?_
          refine lv_iconst (v := 5) hx hb dX12_readRule_80 (by decide) ?_
          refine lv_bipush (v := 6) hx hb dX12_readRule_81 (by decide) ?_
          have hPc := hP.sub (ws' := [(h0, .inr (12, mG q i_taped (nI sz9) u_25 u_26 u_27 (nI u_28) u_29 u_30 u_31 u_32 i_worked i_deliveries i_isPlanned i_bestDone i_bestCost)), (q 0, .inl (E.2.1 3, 800, .inl a_tape))]) [2, 3] rfl
          have hDc := hD.sub (ws' := [(h0, .inr (12, mG q i_taped (nI sz9) u_25 u_26 u_27 (nI u_28) u_29 u_30 u_31 u_32 i_worked i_deliveries i_isPlanned i_bestDone i_bestCost)), (q 0, .inl (E.2.1 3, 800, .inl a_tape))]) [2, 3] (by decide) rfl
          have hFc := va_free (wc := [(h0, .inr (12, mG q i_taped (nI sz9) u_25 u_26 u_27 (nI u_28) u_29 u_30 u_31 u_32 i_worked i_deliveries i_isPlanned i_bestDone i_bestCost)), (q 0, .inl (E.2.1 3, 800, .inl a_tape))]) hD hS hA [2, 3] rfl
          refine va_calli (va_runV (As := [.int 5, .int 6]) (rest := []) ⟨hx, hb, hml, hown, hts⟩ (c_X12_word l E h0 q i_taped u_25 u_26 u_27 u_29 u_30 u_31 u_32 i_worked i_deliveries i_isPlanned i_bestDone i_bestCost sz9 u_28 a_tape 5 6 H.size (by omega) (by omega)) (cwV 2 hts gX12_readRule_X12_word rfl rfl rfl hdV_X12_word ⟨Nat.le_of_ble_eq_true rfl, Nat.le_of_ble_eq_true rfl⟩) ⟨pcW_blind, va_recv hK hPc (ci := 12) (q0 := 0) rfl rfl, (pcW_pre hPc hkn hDc hst hS hFc)⟩ rfl rfl hl.1 rfl (lv_room (Nat.le_of_ble_eq_true rfl)) dX12_readRule_83 ⟨Nat.le_of_ble_eq_true rfl, Nat.le_of_ble_eq_true rfl⟩) hS (fun q _ h => hFc q h) hFc (fun r_38 u t H1 locs ht hvm hw_39 hB hz1 hk1 hS => ?_)
          obtain ⟨u_40, u_41, u_42, u_43, u_44, u_45, u_46, u_47⟩ := u
          obtain ⟨hf_48, hP1, hD1⟩ := hB
          rw [ht] at hP1
          try dsimp only at hw_39
          obtain ⟨hP, hD⟩ := va_join (wr := [(q 10, .inl (E.2.1 0, 336, .inl f_37)), (q 11, .inl (E.2.1 0, 7, .inl a_ruleMany))]) (w1 := [(h0, .inr (12, mG q i_taped (nI sz9) u_40 u_41 u_42 (nI u_43) u_44 u_45 u_46 u_47 i_worked i_deliveries i_isPlanned i_bestDone i_bestCost)), (q 0, .inl (E.2.1 3, 800, .inl a_tape))]) hP hD [2, 3] [0, 1] rfl rfl (by decide) (by decide) hk1 hFc hP1 hD1
          generalize H1 = H at hP hS ⊢
          have hP : va_P E.1 vwCl [(q 10, .inl (E.2.1 0, 336, .inl f_37)), (q 11, .inl (E.2.1 0, 7, .inl a_ruleMany)), (h0, .inr (12, mG q i_taped (nI sz9) u_40 u_41 u_42 (nI u_43) u_44 u_45 u_46 u_47 i_worked i_deliveries i_isPlanned i_bestDone i_bestCost)), (q 0, .inl (E.2.1 3, 800, .inl a_tape))] H := hP
          have hD : va_D A [(q 10, .inl (E.2.1 0, 336, .inl f_37)), (q 11, .inl (E.2.1 0, 7, .inl a_ruleMany)), (h0, .inr (12, mG q i_taped (nI sz9) u_40 u_41 u_42 (nI u_43) u_44 u_45 u_46 u_47 i_worked i_deliveries i_isPlanned i_bestDone i_bestCost)), (q 0, .inl (E.2.1 3, 800, .inl a_tape))] := hD
          refine lv_if_ne (tgt := 91) hx hb dX12_readRule_86 (by decide) (fun c_49 => ?_) (fun c_49 => ?_)
          · refine lv_aload_n hx hb dX12_readRule_91 rfl (lv_at hl 1 rfl) ?_
            refine va_get (D := E.1) (ci := 12) (v := .ref (q 10)) (C := RX12) (T := TX12) (N := 59) hx hb hts inX12 hown hK hP 2 rfl rfl 10 (by decide) fl17 (fun _ h9 => h9) rfl dX12_readRule_92 ?_
            refine lv_iload_n hx hb dX12_readRule_95 rfl (lv_at hl 0 rfl) ?_
            refine lv_iconst (v := 1) hx hb dX12_readRule_96 (by decide) ?_
            refine lv_iadd hx hb dX12_readRule_97 ?_
            refine lv_topi (fun x_50 ex_50 => ?_)
            obtain rfl : x_50 = nI ((4 * (72 + w_7)) + 1) := ex_50.trans (nI_1 _)
            refine lv_aload_n hx hb dX12_readRule_98 rfl (lv_at hl 1 rfl) ?_
            refine va_get (D := E.1) (ci := 12) (v := .int u_47) (C := RX12) (T := TX12) (N := 59) hx hb hts inX12 hown hK hP 2 rfl rfl 16 (by decide) fl206 (fun _ h9 => h9) rfl dX12_readRule_99 ?_
            refine lv_iconst (v := 5) hx hb dX12_readRule_102 (by decide) ?_
            refine lv_isub hx hb dX12_readRule_103 ?_
            refine lv_topi (fun x_51 ex_51 => ?_)
            have hi_52 : vp_in (nI ((4 * (72 + w_7)) + 1)) 336 := vp_in_nI (by omega) (by decide)
            refine va_iast hx hb hK hP hD hS 0 0 rfl rfl hi_52 dX12_readRule_104 (fun H locs hP hD hS => ?_)
            have hP : va_P E.1 vwCl [(q 10, .inl (E.2.1 0, 336, .inl (upd f_37 (nI ((4 * (72 + w_7)) + 1)).toNatClampNeg x_51))), (q 11, .inl (E.2.1 0, 7, .inl a_ruleMany)), (h0, .inr (12, mG q i_taped (nI sz9) u_40 u_41 u_42 (nI u_43) u_44 u_45 u_46 u_47 i_worked i_deliveries i_isPlanned i_bestDone i_bestCost)), (q 0, .inl (E.2.1 3, 800, .inl a_tape))] H := hP
            have hD : va_D A [(q 10, .inl (E.2.1 0, 336, .inl (upd f_37 (nI ((4 * (72 + w_7)) + 1)).toNatClampNeg x_51))), (q 11, .inl (E.2.1 0, 7, .inl a_ruleMany)), (h0, .inr (12, mG q i_taped (nI sz9) u_40 u_41 u_42 (nI u_43) u_44 u_45 u_46 u_47 i_worked i_deliveries i_isPlanned i_bestDone i_bestCost)), (q 0, .inl (E.2.1 3, 800, .inl a_tape))] := hD
            obtain ⟨f_53, ef_53⟩ : ∃ g : Nat → Int32, g = upd f_37 (nI ((4 * (72 + w_7)) + 1)).toNatClampNeg x_51 := ⟨_, rfl⟩
            rw [← ef_53] at hP hD
            refine lv_aload_n hx hb dX12_readRule_105 rfl (lv_at hl 1 rfl) ?_
            refine lv_sipush (v := 9999) hx hb dX12_readRule_106 (by decide) ?_
            have hPc := hP.sub (ws' := [(h0, .inr (12, mG q i_taped (nI sz9) u_40 u_41 u_42 (nI u_43) u_44 u_45 u_46 u_47 i_worked i_deliveries i_isPlanned i_bestDone i_bestCost)), (q 0, .inl (E.2.1 3, 800, .inl a_tape))]) [2, 3] rfl
            have hDc := hD.sub (ws' := [(h0, .inr (12, mG q i_taped (nI sz9) u_40 u_41 u_42 (nI u_43) u_44 u_45 u_46 u_47 i_worked i_deliveries i_isPlanned i_bestDone i_bestCost)), (q 0, .inl (E.2.1 3, 800, .inl a_tape))]) [2, 3] (by decide) rfl
            have hFc := va_free (wc := [(h0, .inr (12, mG q i_taped (nI sz9) u_40 u_41 u_42 (nI u_43) u_44 u_45 u_46 u_47 i_worked i_deliveries i_isPlanned i_bestDone i_bestCost)), (q 0, .inl (E.2.1 3, 800, .inl a_tape))]) hD hS hA [2, 3] rfl
            refine va_calli (va_runV (As := [.int 9999]) (rest := []) ⟨hx, hb, hml, hown, hts⟩ (c_X12_number l E h0 q i_taped u_40 u_41 u_42 u_44 u_45 u_46 u_47 i_worked i_deliveries i_isPlanned i_bestDone i_bestCost sz9 u_43 a_tape 9999 H.size (by omega) (by omega)) (cwV 1 hts gX12_readRule_X12_number rfl rfl rfl hdV_X12_number ⟨Nat.le_of_ble_eq_true rfl, Nat.le_of_ble_eq_true rfl⟩) ⟨pcW_blind, va_recv hK hPc (ci := 12) (q0 := 0) rfl rfl, (pcW_pre hPc hkn hDc hst hS hFc)⟩ rfl rfl hl.1 rfl (lv_room (Nat.le_of_ble_eq_true rfl)) dX12_readRule_109 ⟨Nat.le_of_ble_eq_true rfl, Nat.le_of_ble_eq_true rfl⟩) hS (fun q _ h => hFc q h) hFc (fun r_54 u t H1 locs ht hvm hw_55 hB hz1 hk1 hS => ?_)
            obtain ⟨u_56, u_57, u_58, u_59, u_60, u_61, u_62, u_63⟩ := u
            obtain ⟨hf_64, hP1, hD1⟩ := hB
            rw [ht] at hP1
            try dsimp only at hw_55
            obtain ⟨hP, hD⟩ := va_join (wr := [(q 10, .inl (E.2.1 0, 336, .inl f_53)), (q 11, .inl (E.2.1 0, 7, .inl a_ruleMany))]) (w1 := [(h0, .inr (12, mG q i_taped (nI sz9) u_56 u_57 u_58 (nI u_59) u_60 u_61 u_62 u_63 i_worked i_deliveries i_isPlanned i_bestDone i_bestCost)), (q 0, .inl (E.2.1 3, 800, .inl a_tape))]) hP hD [2, 3] [0, 1] rfl rfl (by decide) (by decide) hk1 hFc hP1 hD1
            generalize H1 = H at hP hS ⊢
            have hP : va_P E.1 vwCl [(q 10, .inl (E.2.1 0, 336, .inl f_53)), (q 11, .inl (E.2.1 0, 7, .inl a_ruleMany)), (h0, .inr (12, mG q i_taped (nI sz9) u_56 u_57 u_58 (nI u_59) u_60 u_61 u_62 u_63 i_worked i_deliveries i_isPlanned i_bestDone i_bestCost)), (q 0, .inl (E.2.1 3, 800, .inl a_tape))] H := hP
            have hD : va_D A [(q 10, .inl (E.2.1 0, 336, .inl f_53)), (q 11, .inl (E.2.1 0, 7, .inl a_ruleMany)), (h0, .inr (12, mG q i_taped (nI sz9) u_56 u_57 u_58 (nI u_59) u_60 u_61 u_62 u_63 i_worked i_deliveries i_isPlanned i_bestDone i_bestCost)), (q 0, .inl (E.2.1 3, 800, .inl a_tape))] := hD
            refine lv_if_ne (tgt := 117) hx hb dX12_readRule_112 (by decide) (fun c_65 => ?_) (fun c_65 => ?_)
            · refine lv_aload_n hx hb dX12_readRule_117 rfl (lv_at hl 1 rfl) ?_
              refine va_get (D := E.1) (ci := 12) (v := .ref (q 10)) (C := RX12) (T := TX12) (N := 59) hx hb hts inX12 hown hK hP 2 rfl rfl 10 (by decide) fl17 (fun _ h9 => h9) rfl dX12_readRule_118 ?_
              refine lv_iload_n hx hb dX12_readRule_121 rfl (lv_at hl 0 rfl) ?_
              refine lv_iconst (v := 2) hx hb dX12_readRule_122 (by decide) ?_
              refine lv_iadd hx hb dX12_readRule_123 ?_
              refine lv_topi (fun x_66 ex_66 => ?_)
              obtain rfl : x_66 = nI ((4 * (72 + w_7)) + 2) := ex_66.trans (nI_add (4 * (72 + w_7)) 2)
              refine lv_aload_n hx hb dX12_readRule_124 rfl (lv_at hl 1 rfl) ?_
              refine va_get (D := E.1) (ci := 12) (v := .int u_63) (C := RX12) (T := TX12) (N := 59) hx hb hts inX12 hown hK hP 2 rfl rfl 16 (by decide) fl206 (fun _ h9 => h9) rfl dX12_readRule_125 ?_
              have hi_67 : vp_in (nI ((4 * (72 + w_7)) + 2)) 336 := vp_in_nI (by omega) (by decide)
              refine va_iast hx hb hK hP hD hS 0 0 rfl rfl hi_67 dX12_readRule_128 (fun H locs hP hD hS => ?_)
              have hP : va_P E.1 vwCl [(q 10, .inl (E.2.1 0, 336, .inl (upd f_53 (nI ((4 * (72 + w_7)) + 2)).toNatClampNeg u_63))), (q 11, .inl (E.2.1 0, 7, .inl a_ruleMany)), (h0, .inr (12, mG q i_taped (nI sz9) u_56 u_57 u_58 (nI u_59) u_60 u_61 u_62 u_63 i_worked i_deliveries i_isPlanned i_bestDone i_bestCost)), (q 0, .inl (E.2.1 3, 800, .inl a_tape))] H := hP
              have hD : va_D A [(q 10, .inl (E.2.1 0, 336, .inl (upd f_53 (nI ((4 * (72 + w_7)) + 2)).toNatClampNeg u_63))), (q 11, .inl (E.2.1 0, 7, .inl a_ruleMany)), (h0, .inr (12, mG q i_taped (nI sz9) u_56 u_57 u_58 (nI u_59) u_60 u_61 u_62 u_63 i_worked i_deliveries i_isPlanned i_bestDone i_bestCost)), (q 0, .inl (E.2.1 3, 800, .inl a_tape))] := hD
              obtain ⟨f_68, ef_68⟩ : ∃ g : Nat → Int32, g = upd f_53 (nI ((4 * (72 + w_7)) + 2)).toNatClampNeg u_63 := ⟨_, rfl⟩
              rw [← ef_68] at hP hD
              refine lv_aload_n hx hb dX12_readRule_129 rfl (lv_at hl 1 rfl) ?_
              refine lv_bipush (v := 7) hx hb dX12_readRule_130 (by decide) ?_
              refine lv_bipush (v := 7) hx hb dX12_readRule_132 (by decide) ?_
              have hPc := hP.sub (ws' := [(h0, .inr (12, mG q i_taped (nI sz9) u_56 u_57 u_58 (nI u_59) u_60 u_61 u_62 u_63 i_worked i_deliveries i_isPlanned i_bestDone i_bestCost)), (q 0, .inl (E.2.1 3, 800, .inl a_tape))]) [2, 3] rfl
              have hDc := hD.sub (ws' := [(h0, .inr (12, mG q i_taped (nI sz9) u_56 u_57 u_58 (nI u_59) u_60 u_61 u_62 u_63 i_worked i_deliveries i_isPlanned i_bestDone i_bestCost)), (q 0, .inl (E.2.1 3, 800, .inl a_tape))]) [2, 3] (by decide) rfl
              have hFc := va_free (wc := [(h0, .inr (12, mG q i_taped (nI sz9) u_56 u_57 u_58 (nI u_59) u_60 u_61 u_62 u_63 i_worked i_deliveries i_isPlanned i_bestDone i_bestCost)), (q 0, .inl (E.2.1 3, 800, .inl a_tape))]) hD hS hA [2, 3] rfl
              refine va_calli (va_runV (As := [.int 7, .int 7]) (rest := []) ⟨hx, hb, hml, hown, hts⟩ (c_X12_word l E h0 q i_taped u_56 u_57 u_58 u_60 u_61 u_62 u_63 i_worked i_deliveries i_isPlanned i_bestDone i_bestCost sz9 u_59 a_tape 7 7 H.size (by omega) (by omega)) (cwV 2 hts gX12_readRule_X12_word rfl rfl rfl hdV_X12_word ⟨Nat.le_of_ble_eq_true rfl, Nat.le_of_ble_eq_true rfl⟩) ⟨pcW_blind, va_recv hK hPc (ci := 12) (q0 := 0) rfl rfl, (pcW_pre hPc hkn hDc hst hS hFc)⟩ rfl rfl hl.1 rfl (lv_room (Nat.le_of_ble_eq_true rfl)) dX12_readRule_134 ⟨Nat.le_of_ble_eq_true rfl, Nat.le_of_ble_eq_true rfl⟩) hS (fun q _ h => hFc q h) hFc (fun r_69 u t H1 locs ht hvm hw_70 hB hz1 hk1 hS => ?_)
              obtain ⟨u_71, u_72, u_73, u_74, u_75, u_76, u_77, u_78⟩ := u
              obtain ⟨hf_79, hP1, hD1⟩ := hB
              rw [ht] at hP1
              try dsimp only at hw_70
              obtain ⟨hP, hD⟩ := va_join (wr := [(q 10, .inl (E.2.1 0, 336, .inl f_68)), (q 11, .inl (E.2.1 0, 7, .inl a_ruleMany))]) (w1 := [(h0, .inr (12, mG q i_taped (nI sz9) u_71 u_72 u_73 (nI u_74) u_75 u_76 u_77 u_78 i_worked i_deliveries i_isPlanned i_bestDone i_bestCost)), (q 0, .inl (E.2.1 3, 800, .inl a_tape))]) hP hD [2, 3] [0, 1] rfl rfl (by decide) (by decide) hk1 hFc hP1 hD1
              generalize H1 = H at hP hS ⊢
              have hP : va_P E.1 vwCl [(q 10, .inl (E.2.1 0, 336, .inl f_68)), (q 11, .inl (E.2.1 0, 7, .inl a_ruleMany)), (h0, .inr (12, mG q i_taped (nI sz9) u_71 u_72 u_73 (nI u_74) u_75 u_76 u_77 u_78 i_worked i_deliveries i_isPlanned i_bestDone i_bestCost)), (q 0, .inl (E.2.1 3, 800, .inl a_tape))] H := hP
              have hD : va_D A [(q 10, .inl (E.2.1 0, 336, .inl f_68)), (q 11, .inl (E.2.1 0, 7, .inl a_ruleMany)), (h0, .inr (12, mG q i_taped (nI sz9) u_71 u_72 u_73 (nI u_74) u_75 u_76 u_77 u_78 i_worked i_deliveries i_isPlanned i_bestDone i_bestCost)), (q 0, .inl (E.2.1 3, 800, .inl a_tape))] := hD
              refine lv_if_eq (tgt := 151) hx hb dX12_readRule_137 (by decide) (fun c_80 => ?_) (fun c_80 => ?_)
              · refine lv_iconst (v := 0) hx hb dX12_readRule_151 (by decide) ?_
                have hP9 := hP.sub (ws' := [(h0, .inr (12, mG q i_taped (nI sz9) u_71 u_72 u_73 (nI u_74) u_75 u_76 u_77 u_78 i_worked i_deliveries i_isPlanned i_bestDone i_bestCost)), (q 0, .inl (E.2.1 3, 800, .inl a_tape)), (q 10, .inl (E.2.1 0, 336, .inl f_68)), (q 11, .inl (E.2.1 0, 7, .inl a_ruleMany))]) [2, 3, 0, 1] rfl
                have hD9 := hD.sub (ws' := [(h0, .inr (12, mG q i_taped (nI sz9) u_71 u_72 u_73 (nI u_74) u_75 u_76 u_77 u_78 i_worked i_deliveries i_isPlanned i_bestDone i_bestCost)), (q 0, .inl (E.2.1 3, 800, .inl a_tape)), (q 10, .inl (E.2.1 0, 336, .inl f_68)), (q 11, .inl (E.2.1 0, 7, .inl a_ruleMany))]) [2, 3, 0, 1] (by decide) rfl
                exact W.zret (v := 0) hx hb hr (by decide) (fun t ht hW => ⟨⟨0, (u_71, u_72, u_73, u_74, u_75, u_76, u_77, u_78, f_68, a_ruleMany), rfl, ⟨Or.inl rfl, Or.inl rfl⟩, hI_ruleMany, (by omega), by rw [ht]; exact hP9, hD9⟩, hS.F ht⟩) hS.2.2 dX12_readRule_152
              · refine lv_aload_n hx hb dX12_readRule_140 rfl (lv_at hl 1 rfl) ?_
                refine lv_bipush (v := 8) hx hb dX12_readRule_141 (by decide) ?_
                refine lv_bipush (v := 10) hx hb dX12_readRule_143 (by decide) ?_
                have hPc := hP.sub (ws' := [(h0, .inr (12, mG q i_taped (nI sz9) u_71 u_72 u_73 (nI u_74) u_75 u_76 u_77 u_78 i_worked i_deliveries i_isPlanned i_bestDone i_bestCost)), (q 0, .inl (E.2.1 3, 800, .inl a_tape))]) [2, 3] rfl
                have hDc := hD.sub (ws' := [(h0, .inr (12, mG q i_taped (nI sz9) u_71 u_72 u_73 (nI u_74) u_75 u_76 u_77 u_78 i_worked i_deliveries i_isPlanned i_bestDone i_bestCost)), (q 0, .inl (E.2.1 3, 800, .inl a_tape))]) [2, 3] (by decide) rfl
                have hFc := va_free (wc := [(h0, .inr (12, mG q i_taped (nI sz9) u_71 u_72 u_73 (nI u_74) u_75 u_76 u_77 u_78 i_worked i_deliveries i_isPlanned i_bestDone i_bestCost)), (q 0, .inl (E.2.1 3, 800, .inl a_tape))]) hD hS hA [2, 3] rfl
                refine va_calli (va_runV (As := [.int 8, .int 10]) (rest := []) ⟨hx, hb, hml, hown, hts⟩ (c_X12_word l E h0 q i_taped u_71 u_72 u_73 u_75 u_76 u_77 u_78 i_worked i_deliveries i_isPlanned i_bestDone i_bestCost sz9 u_74 a_tape 8 10 H.size (by omega) (by omega)) (cwV 2 hts gX12_readRule_X12_word rfl rfl rfl hdV_X12_word ⟨Nat.le_of_ble_eq_true rfl, Nat.le_of_ble_eq_true rfl⟩) ⟨pcW_blind, va_recv hK hPc (ci := 12) (q0 := 0) rfl rfl, (pcW_pre hPc hkn hDc hst hS hFc)⟩ rfl rfl hl.1 rfl (lv_room (Nat.le_of_ble_eq_true rfl)) dX12_readRule_145 ⟨Nat.le_of_ble_eq_true rfl, Nat.le_of_ble_eq_true rfl⟩) hS (fun q _ h => hFc q h) hFc (fun r_81 u t H1 locs ht hvm hw_82 hB hz1 hk1 hS => ?_)
                obtain ⟨u_83, u_84, u_85, u_86, u_87, u_88, u_89, u_90⟩ := u
                obtain ⟨hf_91, hP1, hD1⟩ := hB
                rw [ht] at hP1
                try dsimp only at hw_82
                obtain ⟨hP, hD⟩ := va_join (wr := [(q 10, .inl (E.2.1 0, 336, .inl f_68)), (q 11, .inl (E.2.1 0, 7, .inl a_ruleMany))]) (w1 := [(h0, .inr (12, mG q i_taped (nI sz9) u_83 u_84 u_85 (nI u_86) u_87 u_88 u_89 u_90 i_worked i_deliveries i_isPlanned i_bestDone i_bestCost)), (q 0, .inl (E.2.1 3, 800, .inl a_tape))]) hP hD [2, 3] [0, 1] rfl rfl (by decide) (by decide) hk1 hFc hP1 hD1
                generalize H1 = H at hP hS ⊢
                have hP : va_P E.1 vwCl [(q 10, .inl (E.2.1 0, 336, .inl f_68)), (q 11, .inl (E.2.1 0, 7, .inl a_ruleMany)), (h0, .inr (12, mG q i_taped (nI sz9) u_83 u_84 u_85 (nI u_86) u_87 u_88 u_89 u_90 i_worked i_deliveries i_isPlanned i_bestDone i_bestCost)), (q 0, .inl (E.2.1 3, 800, .inl a_tape))] H := hP
                have hD : va_D A [(q 10, .inl (E.2.1 0, 336, .inl f_68)), (q 11, .inl (E.2.1 0, 7, .inl a_ruleMany)), (h0, .inr (12, mG q i_taped (nI sz9) u_83 u_84 u_85 (nI u_86) u_87 u_88 u_89 u_90 i_worked i_deliveries i_isPlanned i_bestDone i_bestCost)), (q 0, .inl (E.2.1 3, 800, .inl a_tape))] := hD
                refine lv_if_ne (tgt := 153) hx hb dX12_readRule_148 (by decide) (fun c_92 => ?_) (fun c_92 => ?_)
                · refine lv_aload_n hx hb dX12_readRule_153 rfl (lv_at hl 1 rfl) ?_
                  refine va_get (D := E.1) (ci := 12) (v := .ref (q 10)) (C := RX12) (T := TX12) (N := 59) hx hb hts inX12 hown hK hP 2 rfl rfl 10 (by decide) fl17 (fun _ h9 => h9) rfl dX12_readRule_154 ?_
                  refine lv_iload_n hx hb dX12_readRule_157 rfl (lv_at hl 0 rfl) ?_
                  refine lv_iconst (v := 3) hx hb dX12_readRule_158 (by decide) ?_
                  refine lv_iadd hx hb dX12_readRule_159 ?_
                  refine lv_topi (fun x_93 ex_93 => ?_)
                  obtain rfl : x_93 = nI ((4 * (72 + w_7)) + 3) := ex_93.trans (nI_add (4 * (72 + w_7)) 3)
                  refine lv_aload_n hx hb dX12_readRule_160 rfl (lv_at hl 1 rfl) ?_
                  refine va_get (D := E.1) (ci := 12) (v := .int u_90) (C := RX12) (T := TX12) (N := 59) hx hb hts inX12 hown hK hP 2 rfl rfl 16 (by decide) fl206 (fun _ h9 => h9) rfl dX12_readRule_161 ?_
                  refine lv_bipush (v := 8) hx hb dX12_readRule_164 (by decide) ?_
                  refine lv_isub hx hb dX12_readRule_166 ?_
                  refine lv_topi (fun x_94 ex_94 => ?_)
                  have hi_95 : vp_in (nI ((4 * (72 + w_7)) + 3)) 336 := vp_in_nI (by omega) (by decide)
                  refine va_iast hx hb hK hP hD hS 0 0 rfl rfl hi_95 dX12_readRule_167 (fun H locs hP hD hS => ?_)
                  have hP : va_P E.1 vwCl [(q 10, .inl (E.2.1 0, 336, .inl (upd f_68 (nI ((4 * (72 + w_7)) + 3)).toNatClampNeg x_94))), (q 11, .inl (E.2.1 0, 7, .inl a_ruleMany)), (h0, .inr (12, mG q i_taped (nI sz9) u_83 u_84 u_85 (nI u_86) u_87 u_88 u_89 u_90 i_worked i_deliveries i_isPlanned i_bestDone i_bestCost)), (q 0, .inl (E.2.1 3, 800, .inl a_tape))] H := hP
                  have hD : va_D A [(q 10, .inl (E.2.1 0, 336, .inl (upd f_68 (nI ((4 * (72 + w_7)) + 3)).toNatClampNeg x_94))), (q 11, .inl (E.2.1 0, 7, .inl a_ruleMany)), (h0, .inr (12, mG q i_taped (nI sz9) u_83 u_84 u_85 (nI u_86) u_87 u_88 u_89 u_90 i_worked i_deliveries i_isPlanned i_bestDone i_bestCost)), (q 0, .inl (E.2.1 3, 800, .inl a_tape))] := hD
                  obtain ⟨f_96, ef_96⟩ : ∃ g : Nat → Int32, g = upd f_68 (nI ((4 * (72 + w_7)) + 3)).toNatClampNeg x_94 := ⟨_, rfl⟩
                  rw [← ef_96] at hP hD
                  refine lv_aload_n hx hb dX12_readRule_168 rfl (lv_at hl 1 rfl) ?_
                  refine va_get (D := E.1) (ci := 12) (v := .ref (q 11)) (C := RX12) (T := TX12) (N := 59) hx hb hts inX12 hown hK hP 2 rfl rfl 11 (by decide) fl21 (fun _ h9 => h9) rfl dX12_readRule_169 ?_
                  refine lv_bipush (v := 6) hx hb dX12_readRule_172 (by decide) ?_
                  refine lv_dup2_11 hx hb dX12_readRule_174 rfl rfl ?_
                  refine va_iald hx hb hK hP 1 0 rfl rfl (show vp_in 6 7 from by unfold vp_in; decide) dX12_readRule_175 ?_
                  refine lv_topi (fun x_97 ex_97 => ?_)
                  obtain rfl : x_97 = nI w_7 := ex_97.trans ex_5.symm
                  refine lv_iconst (v := 1) hx hb dX12_readRule_176 (by decide) ?_
                  refine lv_iadd hx hb dX12_readRule_177 ?_
                  refine lv_topi (fun x_98 ex_98 => ?_)
                  obtain rfl : x_98 = nI (w_7 + 1) := ex_98.trans (nI_1 _)
                  refine va_iast hx hb hK hP hD hS 1 0 rfl rfl (show vp_in 6 7 from by unfold vp_in; decide) dX12_readRule_178 (fun H locs hP hD hS => ?_)
                  have hP : va_P E.1 vwCl [(q 10, .inl (E.2.1 0, 336, .inl f_96)), (q 11, .inl (E.2.1 0, 7, .inl (upd a_ruleMany (Int32.toNatClampNeg 6) (nI (w_7 + 1))))), (h0, .inr (12, mG q i_taped (nI sz9) u_83 u_84 u_85 (nI u_86) u_87 u_88 u_89 u_90 i_worked i_deliveries i_isPlanned i_bestDone i_bestCost)), (q 0, .inl (E.2.1 3, 800, .inl a_tape))] H := hP
                  have hD : va_D A [(q 10, .inl (E.2.1 0, 336, .inl f_96)), (q 11, .inl (E.2.1 0, 7, .inl (upd a_ruleMany (Int32.toNatClampNeg 6) (nI (w_7 + 1))))), (h0, .inr (12, mG q i_taped (nI sz9) u_83 u_84 u_85 (nI u_86) u_87 u_88 u_89 u_90 i_worked i_deliveries i_isPlanned i_bestDone i_bestCost)), (q 0, .inl (E.2.1 3, 800, .inl a_tape))] := hD
                  obtain ⟨f_99, ef_99⟩ : ∃ g : Nat → Int32, g = upd a_ruleMany (Int32.toNatClampNeg 6) (nI (w_7 + 1)) := ⟨_, rfl⟩
                  rw [← ef_99] at hP hD
                  have hI_100 : ∀ k : Nat, k < 7 → inR (f_99 k) 0 12 = true := by rw [ef_99]; exact all_upd (P := fun z => inR z 0 12 = true) hI_ruleMany (inR_mk (n := 12) (by decide) (by omega))
                  refine lv_aload_n hx hb dX12_readRule_179 rfl (lv_at hl 1 rfl) ?_
                  refine va_get (D := E.1) (ci := 12) (v := .int u_83) (C := RX12) (T := TX12) (N := 59) hx hb hts inX12 hown hK hP 2 rfl rfl 3 (by decide) fl180 (fun _ h9 => h9) rfl dX12_readRule_180 ?_
                  refine lv_iconst (v := 3) hx hb dX12_readRule_183 (by decide) ?_
                  refine lv_icmp_eq (tgt := 193) hx hb dX12_readRule_184 (by decide) (fun c_101 => ?_) (fun c_101 => ?_)
                  · refine lv_aload_n hx hb dX12_readRule_193 rfl (lv_at hl 1 rfl) ?_
                    have hPc := hP.sub (ws' := [(h0, .inr (12, mG q i_taped (nI sz9) u_83 u_84 u_85 (nI u_86) u_87 u_88 u_89 u_90 i_worked i_deliveries i_isPlanned i_bestDone i_bestCost)), (q 0, .inl (E.2.1 3, 800, .inl a_tape))]) [2, 3] rfl
                    have hDc := hD.sub (ws' := [(h0, .inr (12, mG q i_taped (nI sz9) u_83 u_84 u_85 (nI u_86) u_87 u_88 u_89 u_90 i_worked i_deliveries i_isPlanned i_bestDone i_bestCost)), (q 0, .inl (E.2.1 3, 800, .inl a_tape))]) [2, 3] (by decide) rfl
                    have hFc := va_free (wc := [(h0, .inr (12, mG q i_taped (nI sz9) u_83 u_84 u_85 (nI u_86) u_87 u_88 u_89 u_90 i_worked i_deliveries i_isPlanned i_bestDone i_bestCost)), (q 0, .inl (E.2.1 3, 800, .inl a_tape))]) hD hS hA [2, 3] rfl
                    refine va_callv (va_runV (As := []) (rest := []) ⟨hx, hb, hml, hown, hts⟩ (c_X12_scan l E h0 q i_taped u_83 u_84 u_85 u_87 u_88 u_89 u_90 i_worked i_deliveries i_isPlanned i_bestDone i_bestCost sz9 u_86 a_tape H.size (by omega) (by omega)) (cwV 0 hts gX12_readRule_X12_scan rfl rfl rfl hdV_X12_scan ⟨Nat.le_of_ble_eq_true rfl, Nat.le_of_ble_eq_true rfl⟩) ⟨pcW_blind, va_recv hK hPc (ci := 12) (q0 := 0) rfl rfl, (pcW_pre hPc hkn hDc hst hS hFc)⟩ rfl rfl hl.1 rfl (lv_room (Nat.le_of_ble_eq_true rfl)) dX12_readRule_194 ⟨Nat.le_of_ble_eq_true rfl, Nat.le_of_ble_eq_true rfl⟩) hS (fun q _ h => hFc q h) hFc (fun u t H1 locs ht hvm hw_103 hB hz1 hk1 hS => ?_)
                    obtain ⟨u_104, u_105, u_106, u_107, u_108⟩ := u
                    obtain ⟨hf_109, hf_110, hP1, hD1⟩ := hB
                    rw [ht] at hP1
                    try dsimp only at hw_103
                    obtain ⟨hP, hD⟩ := va_join (wr := [(q 10, .inl (E.2.1 0, 336, .inl f_96)), (q 11, .inl (E.2.1 0, 7, .inl f_99))]) (w1 := [(h0, .inr (12, mG q i_taped (nI sz9) u_104 u_105 u_106 (nI u_107) u_108 u_88 u_89 u_90 i_worked i_deliveries i_isPlanned i_bestDone i_bestCost)), (q 0, .inl (E.2.1 3, 800, .inl a_tape))]) hP hD [2, 3] [0, 1] rfl rfl (by decide) (by decide) hk1 hFc hP1 hD1
                    generalize H1 = H at hP hS ⊢
                    have hP : va_P E.1 vwCl [(q 10, .inl (E.2.1 0, 336, .inl f_96)), (q 11, .inl (E.2.1 0, 7, .inl f_99)), (h0, .inr (12, mG q i_taped (nI sz9) u_104 u_105 u_106 (nI u_107) u_108 u_88 u_89 u_90 i_worked i_deliveries i_isPlanned i_bestDone i_bestCost)), (q 0, .inl (E.2.1 3, 800, .inl a_tape))] H := hP
                    have hD : va_D A [(q 10, .inl (E.2.1 0, 336, .inl f_96)), (q 11, .inl (E.2.1 0, 7, .inl f_99)), (h0, .inr (12, mG q i_taped (nI sz9) u_104 u_105 u_106 (nI u_107) u_108 u_88 u_89 u_90 i_worked i_deliveries i_isPlanned i_bestDone i_bestCost)), (q 0, .inl (E.2.1 3, 800, .inl a_tape))] := hD
                    refine lv_iconst (v := 1) hx hb dX12_readRule_197 (by decide) ?_
                    have hP9 := hP.sub (ws' := [(h0, .inr (12, mG q i_taped (nI sz9) u_104 u_105 u_106 (nI u_107) u_108 u_88 u_89 u_90 i_worked i_deliveries i_isPlanned i_bestDone i_bestCost)), (q 0, .inl (E.2.1 3, 800, .inl a_tape)), (q 10, .inl (E.2.1 0, 336, .inl f_96)), (q 11, .inl (E.2.1 0, 7, .inl f_99))]) [2, 3, 0, 1] rfl
                    have hD9 := hD.sub (ws' := [(h0, .inr (12, mG q i_taped (nI sz9) u_104 u_105 u_106 (nI u_107) u_108 u_88 u_89 u_90 i_worked i_deliveries i_isPlanned i_bestDone i_bestCost)), (q 0, .inl (E.2.1 3, 800, .inl a_tape)), (q 10, .inl (E.2.1 0, 336, .inl f_96)), (q 11, .inl (E.2.1 0, 7, .inl f_99))]) [2, 3, 0, 1] (by decide) rfl
                    exact W.zret (v := 1) hx hb hr (by decide) (fun t ht hW => ⟨⟨1, (u_104, u_105, u_106, u_107, u_108, u_88, u_89, u_90, f_96, f_99), rfl, ⟨Or.inr rfl, Or.inr (Or.imp_right (fun h => by omega) hf_110)⟩, hI_100, (by omega), by rw [ht]; exact hP9, hD9⟩, hS.F ht⟩) hS.2.2 dX12_readRule_198
                  · refine lv_aload_n hx hb dX12_readRule_187 rfl (lv_at hl 1 rfl) ?_
                    refine lv_iconst (v := 1) hx hb dX12_readRule_188 (by decide) ?_
                    have hPc := hP.sub (ws' := [(h0, .inr (12, mG q i_taped (nI sz9) u_83 u_84 u_85 (nI u_86) u_87 u_88 u_89 u_90 i_worked i_deliveries i_isPlanned i_bestDone i_bestCost))]) [2] rfl
                    have hDc := hD.sub (ws' := [(h0, .inr (12, mG q i_taped (nI sz9) u_83 u_84 u_85 (nI u_86) u_87 u_88 u_89 u_90 i_worked i_deliveries i_isPlanned i_bestDone i_bestCost))]) [2] (by decide) rfl
                    have hFc := va_free (wc := [(h0, .inr (12, mG q i_taped (nI sz9) u_83 u_84 u_85 (nI u_86) u_87 u_88 u_89 u_90 i_worked i_deliveries i_isPlanned i_bestDone i_bestCost))]) hD hS hA [2] rfl
                    refine va_calli (va_runV (As := [.int 1]) (rest := []) ⟨hx, hb, hml, hown, hts⟩ (c_X12_wrong l E h0 q i_taped (nI sz9) u_83 u_84 u_85 (nI u_86) u_87 u_88 u_89 u_90 i_worked i_deliveries i_isPlanned i_bestDone i_bestCost 1 H.size ) (cwV 1 hts gX12_readRule_X12_wrong rfl rfl rfl hdV_X12_wrong ⟨Nat.le_of_ble_eq_true rfl, Nat.le_of_ble_eq_true rfl⟩) ⟨pcW_blind, va_recv hK hPc (ci := 12) (q0 := 0) rfl rfl, (pcW_pre hPc hkn hDc hst hS hFc)⟩ rfl rfl hl.1 rfl (lv_room (Nat.le_of_ble_eq_true rfl)) dX12_readRule_189 ⟨Nat.le_of_ble_eq_true rfl, Nat.le_of_ble_eq_true rfl⟩) hS (fun q _ h => hFc q h) hFc (fun r_111 u t H1 locs ht hvm hw_112 hB hz1 hk1 hS => ?_)
                    obtain ⟨hP1, hD1⟩ := hB
                    rw [ht] at hP1
                    try dsimp only at hw_112
                    obtain ⟨hP, hD⟩ := va_join (wr := [(q 10, .inl (E.2.1 0, 336, .inl f_96)), (q 11, .inl (E.2.1 0, 7, .inl f_99)), (q 0, .inl (E.2.1 3, 800, .inl a_tape))]) (w1 := [(h0, .inr (12, mG q i_taped (nI sz9) u_83 u_84 u_85 (nI u_86) u_87 1 u_85 u_90 i_worked i_deliveries i_isPlanned i_bestDone i_bestCost))]) hP hD [2] [0, 1, 3] rfl rfl (by decide) (by decide) hk1 hFc hP1 hD1
                    generalize H1 = H at hP hS ⊢
                    have hP : va_P E.1 vwCl [(q 10, .inl (E.2.1 0, 336, .inl f_96)), (q 11, .inl (E.2.1 0, 7, .inl f_99)), (q 0, .inl (E.2.1 3, 800, .inl a_tape)), (h0, .inr (12, mG q i_taped (nI sz9) u_83 u_84 u_85 (nI u_86) u_87 1 u_85 u_90 i_worked i_deliveries i_isPlanned i_bestDone i_bestCost))] H := hP
                    have hD : va_D A [(q 10, .inl (E.2.1 0, 336, .inl f_96)), (q 11, .inl (E.2.1 0, 7, .inl f_99)), (q 0, .inl (E.2.1 3, 800, .inl a_tape)), (h0, .inr (12, mG q i_taped (nI sz9) u_83 u_84 u_85 (nI u_86) u_87 1 u_85 u_90 i_worked i_deliveries i_isPlanned i_bestDone i_bestCost))] := hD
                    obtain rfl : r_111 = 0 := hw_112
                    have hP9 := hP.sub (ws' := [(h0, .inr (12, mG q i_taped (nI sz9) u_83 u_84 u_85 (nI u_86) u_87 1 u_85 u_90 i_worked i_deliveries i_isPlanned i_bestDone i_bestCost)), (q 0, .inl (E.2.1 3, 800, .inl a_tape)), (q 10, .inl (E.2.1 0, 336, .inl f_96)), (q 11, .inl (E.2.1 0, 7, .inl f_99))]) [3, 2, 0, 1] rfl
                    have hD9 := hD.sub (ws' := [(h0, .inr (12, mG q i_taped (nI sz9) u_83 u_84 u_85 (nI u_86) u_87 1 u_85 u_90 i_worked i_deliveries i_isPlanned i_bestDone i_bestCost)), (q 0, .inl (E.2.1 3, 800, .inl a_tape)), (q 10, .inl (E.2.1 0, 336, .inl f_96)), (q 11, .inl (E.2.1 0, 7, .inl f_99))]) [3, 2, 0, 1] (by decide) rfl
                    exact W.zret (v := 0) hx hb hr (by decide) (fun t ht hW => ⟨⟨0, (u_83, u_84, u_85, u_86, u_87, 1, u_85, u_90, f_96, f_99), rfl, ⟨Or.inl rfl, Or.inl rfl⟩, hI_100, (by omega), by rw [ht]; exact hP9, hD9⟩, hS.F ht⟩) hS.2.2 dX12_readRule_192
                · refine lv_iconst (v := 0) hx hb dX12_readRule_151 (by decide) ?_
                  have hP9 := hP.sub (ws' := [(h0, .inr (12, mG q i_taped (nI sz9) u_83 u_84 u_85 (nI u_86) u_87 u_88 u_89 u_90 i_worked i_deliveries i_isPlanned i_bestDone i_bestCost)), (q 0, .inl (E.2.1 3, 800, .inl a_tape)), (q 10, .inl (E.2.1 0, 336, .inl f_68)), (q 11, .inl (E.2.1 0, 7, .inl a_ruleMany))]) [2, 3, 0, 1] rfl
                  have hD9 := hD.sub (ws' := [(h0, .inr (12, mG q i_taped (nI sz9) u_83 u_84 u_85 (nI u_86) u_87 u_88 u_89 u_90 i_worked i_deliveries i_isPlanned i_bestDone i_bestCost)), (q 0, .inl (E.2.1 3, 800, .inl a_tape)), (q 10, .inl (E.2.1 0, 336, .inl f_68)), (q 11, .inl (E.2.1 0, 7, .inl a_ruleMany))]) [2, 3, 0, 1] (by decide) rfl
                  exact W.zret (v := 0) hx hb hr (by decide) (fun t ht hW => ⟨⟨0, (u_83, u_84, u_85, u_86, u_87, u_88, u_89, u_90, f_68, a_ruleMany), rfl, ⟨Or.inl rfl, Or.inl rfl⟩, hI_ruleMany, (by omega), by rw [ht]; exact hP9, hD9⟩, hS.F ht⟩) hS.2.2 dX12_readRule_152
            · refine lv_iconst (v := 0) hx hb dX12_readRule_115 (by decide) ?_
              have hP9 := hP.sub (ws' := [(h0, .inr (12, mG q i_taped (nI sz9) u_56 u_57 u_58 (nI u_59) u_60 u_61 u_62 u_63 i_worked i_deliveries i_isPlanned i_bestDone i_bestCost)), (q 0, .inl (E.2.1 3, 800, .inl a_tape)), (q 10, .inl (E.2.1 0, 336, .inl f_53)), (q 11, .inl (E.2.1 0, 7, .inl a_ruleMany))]) [2, 3, 0, 1] rfl
              have hD9 := hD.sub (ws' := [(h0, .inr (12, mG q i_taped (nI sz9) u_56 u_57 u_58 (nI u_59) u_60 u_61 u_62 u_63 i_worked i_deliveries i_isPlanned i_bestDone i_bestCost)), (q 0, .inl (E.2.1 3, 800, .inl a_tape)), (q 10, .inl (E.2.1 0, 336, .inl f_53)), (q 11, .inl (E.2.1 0, 7, .inl a_ruleMany))]) [2, 3, 0, 1] (by decide) rfl
              exact W.zret (v := 0) hx hb hr (by decide) (fun t ht hW => ⟨⟨0, (u_56, u_57, u_58, u_59, u_60, u_61, u_62, u_63, f_53, a_ruleMany), rfl, ⟨Or.inl rfl, Or.inl rfl⟩, hI_ruleMany, (by omega), by rw [ht]; exact hP9, hD9⟩, hS.F ht⟩) hS.2.2 dX12_readRule_116
          · refine lv_iconst (v := 0) hx hb dX12_readRule_89 (by decide) ?_
            have hP9 := hP.sub (ws' := [(h0, .inr (12, mG q i_taped (nI sz9) u_40 u_41 u_42 (nI u_43) u_44 u_45 u_46 u_47 i_worked i_deliveries i_isPlanned i_bestDone i_bestCost)), (q 0, .inl (E.2.1 3, 800, .inl a_tape)), (q 10, .inl (E.2.1 0, 336, .inl f_37)), (q 11, .inl (E.2.1 0, 7, .inl a_ruleMany))]) [2, 3, 0, 1] rfl
            have hD9 := hD.sub (ws' := [(h0, .inr (12, mG q i_taped (nI sz9) u_40 u_41 u_42 (nI u_43) u_44 u_45 u_46 u_47 i_worked i_deliveries i_isPlanned i_bestDone i_bestCost)), (q 0, .inl (E.2.1 3, 800, .inl a_tape)), (q 10, .inl (E.2.1 0, 336, .inl f_37)), (q 11, .inl (E.2.1 0, 7, .inl a_ruleMany))]) [2, 3, 0, 1] (by decide) rfl
            exact W.zret (v := 0) hx hb hr (by decide) (fun t ht hW => ⟨⟨0, (u_40, u_41, u_42, u_43, u_44, u_45, u_46, u_47, f_37, a_ruleMany), rfl, ⟨Or.inl rfl, Or.inl rfl⟩, hI_ruleMany, (by omega), by rw [ht]; exact hP9, hD9⟩, hS.F ht⟩) hS.2.2 dX12_readRule_90
        · refine lv_iconst (v := 0) hx hb dX12_readRule_65 (by decide) ?_
          have hP9 := hP.sub (ws' := [(h0, .inr (12, mG q i_taped (nI sz9) u_25 u_26 u_27 (nI u_28) u_29 u_30 u_31 u_32 i_worked i_deliveries i_isPlanned i_bestDone i_bestCost)), (q 0, .inl (E.2.1 3, 800, .inl a_tape)), (q 10, .inl (E.2.1 0, 336, .inl a_rules)), (q 11, .inl (E.2.1 0, 7, .inl a_ruleMany))]) [2, 3, 0, 1] rfl
          have hD9 := hD.sub (ws' := [(h0, .inr (12, mG q i_taped (nI sz9) u_25 u_26 u_27 (nI u_28) u_29 u_30 u_31 u_32 i_worked i_deliveries i_isPlanned i_bestDone i_bestCost)), (q 0, .inl (E.2.1 3, 800, .inl a_tape)), (q 10, .inl (E.2.1 0, 336, .inl a_rules)), (q 11, .inl (E.2.1 0, 7, .inl a_ruleMany))]) [2, 3, 0, 1] (by decide) rfl
          exact W.zret (v := 0) hx hb hr (by decide) (fun t ht hW => ⟨⟨0, (u_25, u_26, u_27, u_28, u_29, u_30, u_31, u_32, a_rules, a_ruleMany), rfl, ⟨Or.inl rfl, Or.inl rfl⟩, hI_ruleMany, (by omega), by rw [ht]; exact hP9, hD9⟩, hS.F ht⟩) hS.2.2 dX12_readRule_66
      · refine lv_aload_n hx hb dX12_readRule_33 rfl (lv_at hl 0 rfl) ?_
        refine lv_iconst (v := 4) hx hb dX12_readRule_34 (by decide) ?_
        have hPc := hP.sub (ws' := [(h0, .inr (12, mG q i_taped (nI sz9) i_sort i_what i_at (nI en9) i_worth i_faultKind i_faultPlace i_got i_worked i_deliveries i_isPlanned i_bestDone i_bestCost))]) [0] rfl
        have hDc := hD.sub (ws' := [(h0, .inr (12, mG q i_taped (nI sz9) i_sort i_what i_at (nI en9) i_worth i_faultKind i_faultPlace i_got i_worked i_deliveries i_isPlanned i_bestDone i_bestCost))]) [0] (by decide) rfl
        have hFc := va_free (wc := [(h0, .inr (12, mG q i_taped (nI sz9) i_sort i_what i_at (nI en9) i_worth i_faultKind i_faultPlace i_got i_worked i_deliveries i_isPlanned i_bestDone i_bestCost))]) hD hS hA [0] rfl
        refine va_calli (va_runV (As := [.int 4]) (rest := []) ⟨hx, hb, hml, hown, hts⟩ (c_X12_wrong l E h0 q i_taped (nI sz9) i_sort i_what i_at (nI en9) i_worth i_faultKind i_faultPlace i_got i_worked i_deliveries i_isPlanned i_bestDone i_bestCost 4 s.heap.size ) (cwV 1 hts gX12_readRule_X12_wrong rfl rfl rfl hdV_X12_wrong ⟨Nat.le_of_ble_eq_true rfl, Nat.le_of_ble_eq_true rfl⟩) ⟨pcW_blind, va_recv hK hPc (ci := 12) (q0 := 0) rfl rfl, (pcW_pre hPc hkn hDc hst hS hFc)⟩ rfl rfl hl.1 rfl (lv_room (Nat.le_of_ble_eq_true rfl)) dX12_readRule_35 ⟨Nat.le_of_ble_eq_true rfl, Nat.le_of_ble_eq_true rfl⟩) hS (fun q _ h => hFc q h) hFc (fun r_113 u t H1 locs ht hvm hw_114 hB hz1 hk1 hS => ?_)
        obtain ⟨hP1, hD1⟩ := hB
        rw [ht] at hP1
        try dsimp only at hw_114
        obtain ⟨hP, hD⟩ := va_join (wr := [(q 0, .inl (E.2.1 3, 800, .inl a_tape)), (q 10, .inl (E.2.1 0, 336, .inl a_rules)), (q 11, .inl (E.2.1 0, 7, .inl a_ruleMany))]) (w1 := [(h0, .inr (12, mG q i_taped (nI sz9) i_sort i_what i_at (nI en9) i_worth 4 i_at i_got i_worked i_deliveries i_isPlanned i_bestDone i_bestCost))]) hP hD [0] [1, 2, 3] rfl rfl (by decide) (by decide) hk1 hFc hP1 hD1
        generalize H1 = H at hP hS ⊢
        have hP : va_P E.1 vwCl [(q 0, .inl (E.2.1 3, 800, .inl a_tape)), (q 10, .inl (E.2.1 0, 336, .inl a_rules)), (q 11, .inl (E.2.1 0, 7, .inl a_ruleMany)), (h0, .inr (12, mG q i_taped (nI sz9) i_sort i_what i_at (nI en9) i_worth 4 i_at i_got i_worked i_deliveries i_isPlanned i_bestDone i_bestCost))] H := hP
        have hD : va_D A [(q 0, .inl (E.2.1 3, 800, .inl a_tape)), (q 10, .inl (E.2.1 0, 336, .inl a_rules)), (q 11, .inl (E.2.1 0, 7, .inl a_ruleMany)), (h0, .inr (12, mG q i_taped (nI sz9) i_sort i_what i_at (nI en9) i_worth 4 i_at i_got i_worked i_deliveries i_isPlanned i_bestDone i_bestCost))] := hD
        obtain rfl : r_113 = 0 := hw_114
        have hP9 := hP.sub (ws' := [(h0, .inr (12, mG q i_taped (nI sz9) i_sort i_what i_at (nI en9) i_worth 4 i_at i_got i_worked i_deliveries i_isPlanned i_bestDone i_bestCost)), (q 0, .inl (E.2.1 3, 800, .inl a_tape)), (q 10, .inl (E.2.1 0, 336, .inl a_rules)), (q 11, .inl (E.2.1 0, 7, .inl a_ruleMany))]) [3, 0, 1, 2] rfl
        have hD9 := hD.sub (ws' := [(h0, .inr (12, mG q i_taped (nI sz9) i_sort i_what i_at (nI en9) i_worth 4 i_at i_got i_worked i_deliveries i_isPlanned i_bestDone i_bestCost)), (q 0, .inl (E.2.1 3, 800, .inl a_tape)), (q 10, .inl (E.2.1 0, 336, .inl a_rules)), (q 11, .inl (E.2.1 0, 7, .inl a_ruleMany))]) [3, 0, 1, 2] (by decide) rfl
        exact W.zret (v := 0) hx hb hr (by decide) (fun t ht hW => ⟨⟨0, (i_sort, i_what, i_at, en9, i_worth, 4, i_at, i_got, a_rules, a_ruleMany), rfl, ⟨Or.inl rfl, Or.inl rfl⟩, hI_ruleMany, (by omega), by rw [ht]; exact hP9, hD9⟩, hS.F ht⟩) hS.2.2 dX12_readRule_38
    · refine lv_aload_n hx hb dX12_readRule_15 rfl (lv_at hl 0 rfl) ?_
      refine lv_iconst (v := 1) hx hb dX12_readRule_16 (by decide) ?_
      have hPc := hP.sub (ws' := [(h0, .inr (12, mG q i_taped (nI sz9) i_sort i_what i_at (nI en9) i_worth i_faultKind i_faultPlace i_got i_worked i_deliveries i_isPlanned i_bestDone i_bestCost))]) [0] rfl
      have hDc := hD.sub (ws' := [(h0, .inr (12, mG q i_taped (nI sz9) i_sort i_what i_at (nI en9) i_worth i_faultKind i_faultPlace i_got i_worked i_deliveries i_isPlanned i_bestDone i_bestCost))]) [0] (by decide) rfl
      have hFc := va_free (wc := [(h0, .inr (12, mG q i_taped (nI sz9) i_sort i_what i_at (nI en9) i_worth i_faultKind i_faultPlace i_got i_worked i_deliveries i_isPlanned i_bestDone i_bestCost))]) hD hS hA [0] rfl
      refine va_calli (va_runV (As := [.int 1]) (rest := []) ⟨hx, hb, hml, hown, hts⟩ (c_X12_wrong l E h0 q i_taped (nI sz9) i_sort i_what i_at (nI en9) i_worth i_faultKind i_faultPlace i_got i_worked i_deliveries i_isPlanned i_bestDone i_bestCost 1 s.heap.size ) (cwV 1 hts gX12_readRule_X12_wrong rfl rfl rfl hdV_X12_wrong ⟨Nat.le_of_ble_eq_true rfl, Nat.le_of_ble_eq_true rfl⟩) ⟨pcW_blind, va_recv hK hPc (ci := 12) (q0 := 0) rfl rfl, (pcW_pre hPc hkn hDc hst hS hFc)⟩ rfl rfl hl.1 rfl (lv_room (Nat.le_of_ble_eq_true rfl)) dX12_readRule_17 ⟨Nat.le_of_ble_eq_true rfl, Nat.le_of_ble_eq_true rfl⟩) hS (fun q _ h => hFc q h) hFc (fun r_115 u t H1 locs ht hvm hw_116 hB hz1 hk1 hS => ?_)
      obtain ⟨hP1, hD1⟩ := hB
      rw [ht] at hP1
      try dsimp only at hw_116
      obtain ⟨hP, hD⟩ := va_join (wr := [(q 0, .inl (E.2.1 3, 800, .inl a_tape)), (q 10, .inl (E.2.1 0, 336, .inl a_rules)), (q 11, .inl (E.2.1 0, 7, .inl a_ruleMany))]) (w1 := [(h0, .inr (12, mG q i_taped (nI sz9) i_sort i_what i_at (nI en9) i_worth 1 i_at i_got i_worked i_deliveries i_isPlanned i_bestDone i_bestCost))]) hP hD [0] [1, 2, 3] rfl rfl (by decide) (by decide) hk1 hFc hP1 hD1
      generalize H1 = H at hP hS ⊢
      have hP : va_P E.1 vwCl [(q 0, .inl (E.2.1 3, 800, .inl a_tape)), (q 10, .inl (E.2.1 0, 336, .inl a_rules)), (q 11, .inl (E.2.1 0, 7, .inl a_ruleMany)), (h0, .inr (12, mG q i_taped (nI sz9) i_sort i_what i_at (nI en9) i_worth 1 i_at i_got i_worked i_deliveries i_isPlanned i_bestDone i_bestCost))] H := hP
      have hD : va_D A [(q 0, .inl (E.2.1 3, 800, .inl a_tape)), (q 10, .inl (E.2.1 0, 336, .inl a_rules)), (q 11, .inl (E.2.1 0, 7, .inl a_ruleMany)), (h0, .inr (12, mG q i_taped (nI sz9) i_sort i_what i_at (nI en9) i_worth 1 i_at i_got i_worked i_deliveries i_isPlanned i_bestDone i_bestCost))] := hD
      obtain rfl : r_115 = 0 := hw_116
      have hP9 := hP.sub (ws' := [(h0, .inr (12, mG q i_taped (nI sz9) i_sort i_what i_at (nI en9) i_worth 1 i_at i_got i_worked i_deliveries i_isPlanned i_bestDone i_bestCost)), (q 0, .inl (E.2.1 3, 800, .inl a_tape)), (q 10, .inl (E.2.1 0, 336, .inl a_rules)), (q 11, .inl (E.2.1 0, 7, .inl a_ruleMany))]) [3, 0, 1, 2] rfl
      have hD9 := hD.sub (ws' := [(h0, .inr (12, mG q i_taped (nI sz9) i_sort i_what i_at (nI en9) i_worth 1 i_at i_got i_worked i_deliveries i_isPlanned i_bestDone i_bestCost)), (q 0, .inl (E.2.1 3, 800, .inl a_tape)), (q 10, .inl (E.2.1 0, 336, .inl a_rules)), (q 11, .inl (E.2.1 0, 7, .inl a_ruleMany))]) [3, 0, 1, 2] (by decide) rfl
      exact W.zret (v := 0) hx hb hr (by decide) (fun t ht hW => ⟨⟨0, (i_sort, i_what, i_at, en9, i_worth, 1, i_at, i_got, a_rules, a_ruleMany), rfl, ⟨Or.inl rfl, Or.inl rfl⟩, hI_ruleMany, (by omega), by rw [ht]; exact hP9, hD9⟩, hS.F ht⟩) hS.2.2 dX12_readRule_20
set_option maxHeartbeats 4000000 in
set_option maxRecDepth 100000 in
theorem c_X12_taking (l : Launch) (E : vE) (h0 : Nat) (q : Nat → Nat) (i_size : Int32) (i_sort : Int32) (i_what : Int32) (i_at : Int32) (i_end : Int32) (i_worth : Int32) (i_faultKind : Int32) (i_faultPlace : Int32) (i_got : Int32) (i_worked : Int32) (i_deliveries : Int32) (i_isPlanned : Int32) (i_bestDone : Int32) (i_bestCost : Int32) (ln : Nat) (sz : Nat) : Met l yX12_taking wsX12_taking ({ frames := 0, cells := 0, slots := 0, locals := 0 }) (pcW E [.ref h0] sz [(h0, .inr (12, mG q (nI ln) i_size i_sort i_what i_at i_end i_worth i_faultKind i_faultPlace i_got i_worked i_deliveries i_isPlanned i_bestDone i_bestCost))]) (va_Qv (fun (_ : Unit) => True) (fun (_ : Unit) (t : State) => wB E (va_A [(h0, .inr (12, mG q (nI ln) i_size i_sort i_what i_at i_end i_worth i_faultKind i_faultPlace i_got i_worked i_deliveries i_isPlanned i_bestDone i_bestCost))] sz) [(h0, .inr (12, mG q 0 (nI ln) i_sort i_what i_at 0 i_worth i_faultKind i_faultPlace i_got i_worked i_deliveries i_isPlanned i_bestDone i_bestCost))] t) (va_A [(h0, .inr (12, mG q (nI ln) i_size i_sort i_what i_at i_end i_worth i_faultKind i_faultPlace i_got i_worked i_deliveries i_isPlanned i_bestDone i_bestCost))] sz)) 0 0 (va_A [(h0, .inr (12, mG q (nI ln) i_size i_sort i_what i_at i_end i_worth i_faultKind i_faultPlace i_got i_worked i_deliveries i_isPlanned i_bestDone i_bestCost))] sz) := by
  refine Met.ofW (cc := cX12_taking) (maxL := 1) (ret := none) (by decide) rfl ?_
  intro p e s m args below meth c s₁ B hml hv
  obtain ⟨rfl, hsz, hP, hkn, hD0, hst⟩ := hv
  have hx := B.exec
  have hb := B.bytes
  have hr := B.returns
  have hts := atoms_spec (ws := wsX12_taking) B.pre
  have hown : s.vm.findClass RX12 = some m.cls := findClass_of_methodNamed B.named
  have hlocks := B.notSynchronized
  subst hsz
  have hD := hD0.self (sz := s.heap.size)
  have hK := hkn.1
  have hAO := hkn.2.2.1
  generalize hAe : va_A [(h0, .inr (12, mG q (nI ln) i_size i_sort i_what i_at i_end i_worth i_faultKind i_faultPlace i_got i_worked i_deliveries i_isPlanned i_bestDone i_bestCost))] s.heap.size = A at hD hst ⊢
  have hA : ∀ q : Nat, s.heap.size ≤ q → A q := fun q h => by rw [← hAe]; exact Or.inr h
  have hS : va_S A s.heap s.heap [] := va_S.rf
  have hP : va_P E.1 vwCl [(h0, .inr (12, mG q (nI ln) i_size i_sort i_what i_at i_end i_worth i_faultKind i_faultPlace i_got i_worked i_deliveries i_isPlanned i_bestDone i_bestCost))] s.heap := hP
  have hl := lv_entry ([.ref h0]) (n := 1) (Nat.le_of_ble_eq_true rfl)
  rw [lg_entry_eq]
  generalize (lg_sl ([.ref h0]) ++ List.replicate (1 - (lg_sl ([.ref h0])).length) Slot.unset).toArray = ls at hl ⊢
  have hl : lv_has ls 1 [(0, .ref h0)] := hl
  have fl152 := hts (.fieldLink RX12 152 "BoatsHomeModel" "taped" "I") (by first | exact List.mem_of_getElem? (i := 1) rfl | decide +kernel)
  have fl155 := hts (.fieldLink RX12 155 "BoatsHomeModel" "size" "I") (by first | exact List.mem_of_getElem? (i := 2) rfl | decide +kernel)
  have fl174 := hts (.fieldLink RX12 174 "BoatsHomeModel" "end" "I") (by first | exact List.mem_of_getElem? (i := 3) rfl | decide +kernel)
  have inX12 : ∀ w ∈ u_ws RX12 TX12 59, w ∈ wsX12_taking := by first | exact fun w h9 => (List.mem_cons_of_mem _ (List.mem_append_right _ h9)) | decide +kernel
  refine lv_aload_n hx hb dX12_taking_0 rfl (lv_at hl 0 rfl) ?_
  refine lv_aload_n hx hb dX12_taking_1 rfl (lv_at hl 0 rfl) ?_
  refine va_get (D := E.1) (ci := 12) (v := .int (nI ln)) (C := RX12) (T := TX12) (N := 59) hx hb hts inX12 hown hK hP 0 rfl rfl 1 (by decide) fl152 (fun _ h9 => h9) rfl dX12_taking_2 ?_
  refine va_put (D := E.1) (ci := 12) (v := .int (nI ln)) (ty := .int) (C := RX12) (T := TX12) (N := 59) hx hb hts inX12 tyX12 tyX12_ok nmX12 hown hK hP hD hS 0 rfl rfl 2 (by decide) fl155 (fun _ h9 => h9) rfl (by decide +kernel) rfl rfl (Nat.le_of_ble_eq_true rfl) dX12_taking_5 (fun H locs hP hD hS => ?_)
  have hP : va_P E.1 vwCl [(h0, .inr (12, mG q (nI ln) (nI ln) i_sort i_what i_at i_end i_worth i_faultKind i_faultPlace i_got i_worked i_deliveries i_isPlanned i_bestDone i_bestCost))] H := hP
  have hD : va_D A [(h0, .inr (12, mG q (nI ln) (nI ln) i_sort i_what i_at i_end i_worth i_faultKind i_faultPlace i_got i_worked i_deliveries i_isPlanned i_bestDone i_bestCost))] := hD
  refine lv_aload_n hx hb dX12_taking_8 rfl (lv_at hl 0 rfl) ?_
  refine lv_iconst (v := 0) hx hb dX12_taking_9 (by decide) ?_
  refine va_put (D := E.1) (ci := 12) (v := .int 0) (ty := .int) (C := RX12) (T := TX12) (N := 59) hx hb hts inX12 tyX12 tyX12_ok nmX12 hown hK hP hD hS 0 rfl rfl 1 (by decide) fl152 (fun _ h9 => h9) rfl (by decide +kernel) rfl rfl (Nat.le_of_ble_eq_true rfl) dX12_taking_10 (fun H locs hP hD hS => ?_)
  have hP : va_P E.1 vwCl [(h0, .inr (12, mG q 0 (nI ln) i_sort i_what i_at i_end i_worth i_faultKind i_faultPlace i_got i_worked i_deliveries i_isPlanned i_bestDone i_bestCost))] H := hP
  have hD : va_D A [(h0, .inr (12, mG q 0 (nI ln) i_sort i_what i_at i_end i_worth i_faultKind i_faultPlace i_got i_worked i_deliveries i_isPlanned i_bestDone i_bestCost))] := hD
  refine lv_aload_n hx hb dX12_taking_13 rfl (lv_at hl 0 rfl) ?_
  refine lv_iconst (v := 0) hx hb dX12_taking_14 (by decide) ?_
  refine va_put (D := E.1) (ci := 12) (v := .int 0) (ty := .int) (C := RX12) (T := TX12) (N := 59) hx hb hts inX12 tyX12 tyX12_ok nmX12 hown hK hP hD hS 0 rfl rfl 6 (by decide) fl174 (fun _ h9 => h9) rfl (by decide +kernel) rfl rfl (Nat.le_of_ble_eq_true rfl) dX12_taking_15 (fun H locs hP hD hS => ?_)
  have hP : va_P E.1 vwCl [(h0, .inr (12, mG q 0 (nI ln) i_sort i_what i_at 0 i_worth i_faultKind i_faultPlace i_got i_worked i_deliveries i_isPlanned i_bestDone i_bestCost))] H := hP
  have hD : va_D A [(h0, .inr (12, mG q 0 (nI ln) i_sort i_what i_at 0 i_worth i_faultKind i_faultPlace i_got i_worked i_deliveries i_isPlanned i_bestDone i_bestCost))] := hD
  have hP9 := hP.sub (ws' := [(h0, .inr (12, mG q 0 (nI ln) i_sort i_what i_at 0 i_worth i_faultKind i_faultPlace i_got i_worked i_deliveries i_isPlanned i_bestDone i_bestCost))]) [0] rfl
  have hD9 := hD.sub (ws' := [(h0, .inr (12, mG q 0 (nI ln) i_sort i_what i_at 0 i_worth i_faultKind i_faultPlace i_got i_worked i_deliveries i_isPlanned i_bestDone i_bestCost))]) [0] (by decide) rfl
  exact W.vret hx hb hr (fun t ht hW => ⟨⟨(), rfl, trivial, by rw [ht]; exact hP9, hD9⟩, hS.F ht⟩) hS.2.2 dX12_taking_18
set_option maxHeartbeats 4000000 in
set_option maxRecDepth 100000 in
theorem lm_skip1 {p : Program} {l : Launch} {e : Env} {s : State} {m : MethodId} {args : Array Value} {below : List Frame} {meth : Method} {c : Code} {Q : State → Prop} {A : Nat → Prop} (E : vE) (h0 : Nat) (q : Nat → Nat) (i_taped : Int32) (i_worked : Int32) (i_deliveries : Int32) (i_isPlanned : Int32) (i_bestDone : Int32) (i_bestCost : Int32) (sz9 : Nat) (b : Nat) (a_tape : Nat → Int32) (hx : p.tables.exec = Jvm.exec) (hb : c.code = cX12_skipper) (hml : c.maxLocals = 3) (hown : s.vm.findClass RX12 = some m.cls) (hts : ∀ w ∈ wsX12_skipper, w.before args s = true) (hkn : kn E s) (hst : st E A s s.heap) (hA : ∀ q : Nat, s.heap.size ≤ q → A q) (hsz : sz9 ≤ 800) (kk : ∀ (i_sort : Int32) (i_what : Int32) (i_at : Int32) (en9 : Nat) (i_worth : Int32) (i_faultKind : Int32) (i_faultPlace : Int32) (i_got : Int32) (a_rules : Nat → Int32) (a_ruleMany : Nat → Int32) (H : Heap) (locs : List Loc) (ls : Array Slot), (en9 ≤ sz9) → (∀ k : Nat, k < 7 → inR (a_ruleMany k) 0 12 = true) → va_P E.1 vwCl [(h0, .inr (12, mG q i_taped (nI sz9) i_sort i_what i_at (nI en9) i_worth i_faultKind i_faultPlace i_got i_worked i_deliveries i_isPlanned i_bestDone i_bestCost)), (q 0, .inl (E.2.1 3, 800, .inl a_tape)), (q 10, .inl (E.2.1 0, 336, .inl a_rules)), (q 11, .inl (E.2.1 0, 7, .inl a_ruleMany))] H → va_D A [(h0, .inr (12, mG q i_taped (nI sz9) i_sort i_what i_at (nI en9) i_worth i_faultKind i_faultPlace i_got i_worked i_deliveries i_isPlanned i_bestDone i_bestCost)), (q 0, .inl (E.2.1 3, 800, .inl a_tape)), (q 10, .inl (E.2.1 0, 336, .inl a_rules)), (q 11, .inl (E.2.1 0, 7, .inl a_ruleMany))] → va_S A s.heap H locs → lv_has ls 3 [(0, .ref h0), (1, .int (nI b))] → W p l e ({ frames := 8, cells := 0, slots := 0, locals := 178 }) s m args below meth c H locs 0 0 Q (F0 m 53 ls [])) (kk2 : ∀ (i_sort : Int32) (i_what : Int32) (i_at : Int32) (en9 : Nat) (i_worth : Int32) (i_faultKind : Int32) (i_faultPlace : Int32) (i_got : Int32) (a_rules : Nat → Int32) (a_ruleMany : Nat → Int32) (H : Heap) (locs : List Loc) (ls : Array Slot), (∀ k : Nat, k < 7 → inR (a_ruleMany k) 0 12 = true) → va_P E.1 vwCl [(h0, .inr (12, mG q i_taped (nI sz9) i_sort i_what i_at (nI en9) i_worth i_faultKind i_faultPlace i_got i_worked i_deliveries i_isPlanned i_bestDone i_bestCost)), (q 0, .inl (E.2.1 3, 800, .inl a_tape)), (q 10, .inl (E.2.1 0, 336, .inl a_rules)), (q 11, .inl (E.2.1 0, 7, .inl a_ruleMany))] H → va_D A [(h0, .inr (12, mG q i_taped (nI sz9) i_sort i_what i_at (nI en9) i_worth i_faultKind i_faultPlace i_got i_worked i_deliveries i_isPlanned i_bestDone i_bestCost)), (q 0, .inl (E.2.1 3, 800, .inl a_tape)), (q 10, .inl (E.2.1 0, 336, .inl a_rules)), (q 11, .inl (E.2.1 0, 7, .inl a_ruleMany))] → va_S A s.heap H locs → lv_has ls 3 [(0, .ref h0), (1, .int (nI b))] → W p l e ({ frames := 8, cells := 0, slots := 0, locals := 178 }) s m args below meth c H locs 0 0 Q (F0 m 51 ls [])) : ∀ (n0 : Nat) (i_sort : Int32) (i_what : Int32) (i_at : Int32) (en9 : Nat) (i_worth : Int32) (i_faultKind : Int32) (i_faultPlace : Int32) (i_got : Int32) (a_rules : Nat → Int32) (a_ruleMany : Nat → Int32) (H : Heap) (locs : List Loc) (ls : Array Slot), 2 * (sz9 - en9) + (if i_sort = 4 then 0 else 1) < n0 → (en9 ≤ sz9) → (∀ k : Nat, k < 7 → inR (a_ruleMany k) 0 12 = true) → va_P E.1 vwCl [(h0, .inr (12, mG q i_taped (nI sz9) i_sort i_what i_at (nI en9) i_worth i_faultKind i_faultPlace i_got i_worked i_deliveries i_isPlanned i_bestDone i_bestCost)), (q 0, .inl (E.2.1 3, 800, .inl a_tape)), (q 10, .inl (E.2.1 0, 336, .inl a_rules)), (q 11, .inl (E.2.1 0, 7, .inl a_ruleMany))] H → va_D A [(h0, .inr (12, mG q i_taped (nI sz9) i_sort i_what i_at (nI en9) i_worth i_faultKind i_faultPlace i_got i_worked i_deliveries i_isPlanned i_bestDone i_bestCost)), (q 0, .inl (E.2.1 3, 800, .inl a_tape)), (q 10, .inl (E.2.1 0, 336, .inl a_rules)), (q 11, .inl (E.2.1 0, 7, .inl a_ruleMany))] → va_S A s.heap H locs → lv_has ls 3 [(0, .ref h0), (1, .int (nI b))] → W p l e ({ frames := 8, cells := 0, slots := 0, locals := 178 }) s m args below meth c H locs 0 0 Q (F0 m 36 ls []) := by
  have hK := hkn.1
  have hAO := hkn.2.2.1
  have fl13 := hts (.fieldLink RX12 13 "BoatsHomeModel" "faultPlace" "I") (by first | exact List.mem_of_getElem? (i := 2) rfl | decide +kernel)
  have fl17 := hts (.fieldLink RX12 17 "BoatsHomeModel" "rules" "[I") (by first | exact List.mem_of_getElem? (i := 5) rfl | decide +kernel)
  have fl21 := hts (.fieldLink RX12 21 "BoatsHomeModel" "ruleMany" "[I") (by first | exact List.mem_of_getElem? (i := 3) rfl | decide +kernel)
  have fl180 := hts (.fieldLink RX12 180 "BoatsHomeModel" "sort" "I") (by first | exact List.mem_of_getElem? (i := 4) rfl | decide +kernel)
  have fl200 := hts (.fieldLink RX12 200 "BoatsHomeModel" "faultKind" "I") (by first | exact List.mem_of_getElem? (i := 1) rfl | decide +kernel)
  have inX12 : ∀ w ∈ u_ws RX12 TX12 59, w ∈ wsX12_skipper := by first | exact fun w h9 => (List.mem_cons_of_mem _ (List.mem_append_right _ h9)) | decide +kernel
  intro n0
  induction n0 with
  | zero =>
    intro i_sort i_what i_at en9 i_worth i_faultKind i_faultPlace i_got a_rules a_ruleMany H locs ls hn0
    exact absurd hn0 (Nat.not_lt_zero _)
  | succ n0 ih =>
    intro i_sort i_what i_at en9 i_worth i_faultKind i_faultPlace i_got a_rules a_ruleMany H locs ls hn0 hen hI_ruleMany hP hD hS hl
    refine lv_aload_n hx hb dX12_skipper_36 rfl (lv_at hl 0 rfl) ?_
    refine va_get (D := E.1) (ci := 12) (v := .int i_sort) (C := RX12) (T := TX12) (N := 59) hx hb hts inX12 hown hK hP 0 rfl rfl 3 (by decide) fl180 (fun _ h9 => h9) rfl dX12_skipper_37 ?_
    refine lv_iconst (v := 4) hx hb dX12_skipper_40 (by decide) ?_
    refine lv_icmp_eq (tgt := 53) hx hb dX12_skipper_41 (by decide) (fun c_1 => ?_) (fun c_1 => ?_)
    · exact kk i_sort i_what i_at en9 i_worth i_faultKind i_faultPlace i_got a_rules a_ruleMany _ _ _ hen hI_ruleMany (hP.sub [0, 1, 2, 3] rfl) (hD.sub [0, 1, 2, 3] (by decide) rfl) hS (lv_sub hl [0, 1] rfl)
    · refine lv_aload_n hx hb dX12_skipper_44 rfl (lv_at hl 0 rfl) ?_
      have hPc := hP.sub (ws' := [(h0, .inr (12, mG q i_taped (nI sz9) i_sort i_what i_at (nI en9) i_worth i_faultKind i_faultPlace i_got i_worked i_deliveries i_isPlanned i_bestDone i_bestCost)), (q 0, .inl (E.2.1 3, 800, .inl a_tape)), (q 10, .inl (E.2.1 0, 336, .inl a_rules)), (q 11, .inl (E.2.1 0, 7, .inl a_ruleMany))]) [0, 1, 2, 3] rfl
      have hDc := hD.sub (ws' := [(h0, .inr (12, mG q i_taped (nI sz9) i_sort i_what i_at (nI en9) i_worth i_faultKind i_faultPlace i_got i_worked i_deliveries i_isPlanned i_bestDone i_bestCost)), (q 0, .inl (E.2.1 3, 800, .inl a_tape)), (q 10, .inl (E.2.1 0, 336, .inl a_rules)), (q 11, .inl (E.2.1 0, 7, .inl a_ruleMany))]) [0, 1, 2, 3] (by decide) rfl
      have hFc := va_free (wc := [(h0, .inr (12, mG q i_taped (nI sz9) i_sort i_what i_at (nI en9) i_worth i_faultKind i_faultPlace i_got i_worked i_deliveries i_isPlanned i_bestDone i_bestCost)), (q 0, .inl (E.2.1 3, 800, .inl a_tape)), (q 10, .inl (E.2.1 0, 336, .inl a_rules)), (q 11, .inl (E.2.1 0, 7, .inl a_ruleMany))]) hD hS hA [0, 1, 2, 3] rfl
      refine va_calli (va_runV (As := []) (rest := []) ⟨hx, hb, hml, hown, hts⟩ (c_X12_readRule l E h0 q i_taped i_sort i_what i_at i_worth i_faultKind i_faultPlace i_got i_worked i_deliveries i_isPlanned i_bestDone i_bestCost sz9 en9 a_tape a_rules a_ruleMany H.size (by omega) (by omega) hI_ruleMany) (cwV 0 hts gX12_skipper_X12_readRule rfl rfl rfl hdV_X12_readRule ⟨Nat.le_of_ble_eq_true rfl, Nat.le_of_ble_eq_true rfl⟩) ⟨pcW_blind, va_recv hK hPc (ci := 12) (q0 := 0) rfl rfl, (pcW_pre hPc hkn hDc hst hS hFc)⟩ rfl rfl hl.1 rfl (lv_room (Nat.le_of_ble_eq_true rfl)) dX12_skipper_45 ⟨Nat.le_of_ble_eq_true rfl, Nat.le_of_ble_eq_true rfl⟩) hS (fun q _ h => hFc q h) hFc (fun r_2 u t H1 locs ht hvm hw_3 hB hz1 hk1 hS => ?_)
      obtain ⟨u_4, u_5, u_6, u_7, u_8, u_9, u_10, u_11, u_12, u_13⟩ := u
      obtain ⟨hf_14, hf_15, hP1, hD1⟩ := hB
      rw [ht] at hP1
      try dsimp only at hw_3
      obtain ⟨hP, hD⟩ := va_join (wr := []) (w1 := [(h0, .inr (12, mG q i_taped (nI sz9) u_4 u_5 u_6 (nI u_7) u_8 u_9 u_10 u_11 i_worked i_deliveries i_isPlanned i_bestDone i_bestCost)), (q 0, .inl (E.2.1 3, 800, .inl a_tape)), (q 10, .inl (E.2.1 0, 336, .inl u_12)), (q 11, .inl (E.2.1 0, 7, .inl u_13))]) hP hD [0, 1, 2, 3] [] rfl rfl (by decide) (by decide) hk1 hFc hP1 hD1
      generalize H1 = H at hP hS ⊢
      have hP : va_P E.1 vwCl [(h0, .inr (12, mG q i_taped (nI sz9) u_4 u_5 u_6 (nI u_7) u_8 u_9 u_10 u_11 i_worked i_deliveries i_isPlanned i_bestDone i_bestCost)), (q 0, .inl (E.2.1 3, 800, .inl a_tape)), (q 10, .inl (E.2.1 0, 336, .inl u_12)), (q 11, .inl (E.2.1 0, 7, .inl u_13))] H := hP
      have hD : va_D A [(h0, .inr (12, mG q i_taped (nI sz9) u_4 u_5 u_6 (nI u_7) u_8 u_9 u_10 u_11 i_worked i_deliveries i_isPlanned i_bestDone i_bestCost)), (q 0, .inl (E.2.1 3, 800, .inl a_tape)), (q 10, .inl (E.2.1 0, 336, .inl u_12)), (q 11, .inl (E.2.1 0, 7, .inl u_13))] := hD
      refine lv_if_ne (tgt := 36) hx hb dX12_skipper_48 (by decide) (fun c_16 => ?_) (fun c_16 => ?_)
      · exact ih u_4 u_5 u_6 u_7 u_8 u_9 u_10 u_11 u_12 u_13 _ _ _ (by
                have h9 := (hw_3.2).resolve_left c_16
                rw [if_neg c_1] at hn0
                rcases h9 with h9 | h9
                · rw [if_pos h9]; omega
                · split <;> omega) (by omega) hf_14 (hP.sub [0, 1, 2, 3] rfl) (hD.sub [0, 1, 2, 3] (by decide) rfl) hS (lv_sub hl [0, 1] rfl)
      · exact kk2 u_4 u_5 u_6 u_7 u_8 u_9 u_10 u_11 u_12 u_13 _ _ _ hf_14 (hP.sub [0, 1, 2, 3] rfl) (hD.sub [0, 1, 2, 3] (by decide) rfl) hS (lv_sub hl [0, 1] rfl)
set_option maxHeartbeats 4000000 in
set_option maxRecDepth 100000 in
theorem lm_skip2 {p : Program} {l : Launch} {e : Env} {R : Room} {s : State} {m : MethodId} {args : Array Value} {below : List Frame} {meth : Method} {c : Code} {cells slots : Nat} {Q : State → Prop} {A : Nat → Prop} (E : vE) (h0 : Nat) (q : Nat → Nat) (i_taped : Int32) (i_size : Int32) (i_sort : Int32) (i_what : Int32) (i_at : Int32) (i_end : Int32) (i_worth : Int32) (i_faultKind : Int32) (i_faultPlace : Int32) (i_got : Int32) (i_worked : Int32) (i_deliveries : Int32) (i_isPlanned : Int32) (i_bestDone : Int32) (i_bestCost : Int32) (b : Nat) (wr : va_W) (hx : p.tables.exec = Jvm.exec) (hb : c.code = cX12_skipper) (hml : c.maxLocals = 3) (hown : s.vm.findClass RX12 = some m.cls) (hts : ∀ w ∈ wsX12_skipper, w.before args s = true) (hkn : kn E s) (hst : st E A s s.heap) (hA : ∀ q : Nat, s.heap.size ≤ q → A q) (hb6 : b < 6) (kk : ∀ (a_rules : Nat → Int32) (H : Heap) (locs : List Loc) (ls : Array Slot), va_P E.1 vwCl ((h0, .inr (12, mG q i_taped i_size i_sort i_what i_at i_end i_worth i_faultKind i_faultPlace i_got i_worked i_deliveries i_isPlanned i_bestDone i_bestCost)) :: (q 10, .inl (E.2.1 0, 336, .inl a_rules)) :: wr) H → va_D A ((h0, .inr (12, mG q i_taped i_size i_sort i_what i_at i_end i_worth i_faultKind i_faultPlace i_got i_worked i_deliveries i_isPlanned i_bestDone i_bestCost)) :: (q 10, .inl (E.2.1 0, 336, .inl a_rules)) :: wr) → va_S A s.heap H locs → lv_has ls 3 [(0, .ref h0), (1, .int (nI b))] → W p l e R s m args below meth c H locs cells slots Q (F0 m 101 ls [])) : ∀ (n0 : Nat) (k : Nat) (a_rules : Nat → Int32) (H : Heap) (locs : List Loc) (ls : Array Slot), 48 - k < n0 → (k ≤ 48) → va_P E.1 vwCl ((h0, .inr (12, mG q i_taped i_size i_sort i_what i_at i_end i_worth i_faultKind i_faultPlace i_got i_worked i_deliveries i_isPlanned i_bestDone i_bestCost)) :: (q 10, .inl (E.2.1 0, 336, .inl a_rules)) :: wr) H → va_D A ((h0, .inr (12, mG q i_taped i_size i_sort i_what i_at i_end i_worth i_faultKind i_faultPlace i_got i_worked i_deliveries i_isPlanned i_bestDone i_bestCost)) :: (q 10, .inl (E.2.1 0, 336, .inl a_rules)) :: wr) → va_S A s.heap H locs → lv_has ls 3 [(0, .ref h0), (1, .int (nI b)), (2, .int (nI k))] → W p l e R s m args below meth c H locs cells slots Q (F0 m 68 ls []) := by
  have hK := hkn.1
  have hAO := hkn.2.2.1
  have fl13 := hts (.fieldLink RX12 13 "BoatsHomeModel" "faultPlace" "I") (by first | exact List.mem_of_getElem? (i := 2) rfl | decide +kernel)
  have fl17 := hts (.fieldLink RX12 17 "BoatsHomeModel" "rules" "[I") (by first | exact List.mem_of_getElem? (i := 5) rfl | decide +kernel)
  have fl21 := hts (.fieldLink RX12 21 "BoatsHomeModel" "ruleMany" "[I") (by first | exact List.mem_of_getElem? (i := 3) rfl | decide +kernel)
  have fl180 := hts (.fieldLink RX12 180 "BoatsHomeModel" "sort" "I") (by first | exact List.mem_of_getElem? (i := 4) rfl | decide +kernel)
  have fl200 := hts (.fieldLink RX12 200 "BoatsHomeModel" "faultKind" "I") (by first | exact List.mem_of_getElem? (i := 1) rfl | decide +kernel)
  have inX12 : ∀ w ∈ u_ws RX12 TX12 59, w ∈ wsX12_skipper := by first | exact fun w h9 => (List.mem_cons_of_mem _ (List.mem_append_right _ h9)) | decide +kernel
  intro n0
  induction n0 with
  | zero =>
    intro k a_rules H locs ls hn0
    exact absurd hn0 (Nat.not_lt_zero _)
  | succ n0 ih =>
    intro k a_rules H locs ls hn0 hk hP hD hS hl
    refine lv_iload_n hx hb dX12_skipper_68 rfl (lv_at hl 2 rfl) ?_
    refine lv_bipush (v := 48) hx hb dX12_skipper_69 (by decide) ?_
    refine lv_icmp_ge (tgt := 101) hx hb dX12_skipper_71 (by decide) (fun c_1 => ?_) (fun c_1 => ?_)
    · exact kk a_rules _ _ _  hP hD hS (lv_sub hl [0, 1] rfl)
    · have hlt : k < 48 := lt_of_nle (a := 48) (by omega) c_1
      refine lv_aload_n hx hb dX12_skipper_74 rfl (lv_at hl 0 rfl) ?_
      refine va_get (D := E.1) (ci := 12) (v := .ref (q 10)) (C := RX12) (T := TX12) (N := 59) hx hb hts inX12 hown hK hP 0 rfl rfl 10 (by decide) fl17 (fun _ h9 => h9) rfl dX12_skipper_75 ?_
      refine lv_bipush (v := 48) hx hb dX12_skipper_78 (by decide) ?_
      refine lv_iload_n hx hb dX12_skipper_80 rfl (lv_at hl 1 rfl) ?_
      refine lv_imul hx hb dX12_skipper_81 ?_
      refine lv_topi (fun x_2 ex_2 => ?_)
      obtain rfl : x_2 = nI (48 * b) := ex_2.trans (pk_mul 48 b)
      refine lv_iload_n hx hb dX12_skipper_82 rfl (lv_at hl 2 rfl) ?_
      refine lv_iadd hx hb dX12_skipper_83 ?_
      refine lv_topi (fun x_3 ex_3 => ?_)
      obtain rfl : x_3 = nI ((48 * b) + k) := ex_3.trans (nI_add (48 * b) k)
      refine lv_aload_n hx hb dX12_skipper_84 rfl (lv_at hl 0 rfl) ?_
      refine va_get (D := E.1) (ci := 12) (v := .ref (q 10)) (C := RX12) (T := TX12) (N := 59) hx hb hts inX12 hown hK hP 0 rfl rfl 10 (by decide) fl17 (fun _ h9 => h9) rfl dX12_skipper_85 ?_
      refine lv_sipush (v := 288) hx hb dX12_skipper_88 (by decide) ?_
      refine lv_iload_n hx hb dX12_skipper_91 rfl (lv_at hl 2 rfl) ?_
      refine lv_iadd hx hb dX12_skipper_92 ?_
      refine lv_topi (fun x_4 ex_4 => ?_)
      obtain rfl : x_4 = nI (288 + k) := ex_4.trans (nI_add 288 k)
      have hi_5 : vp_in (nI (288 + k)) 336 := vp_in_nI (by omega) (by decide)
      refine va_iald hx hb hK hP 1 0 rfl rfl hi_5 dX12_skipper_93 ?_
      refine lv_topi (fun x_6 ex_6 => ?_)
      have hi_7 : vp_in (nI ((48 * b) + k)) 336 := vp_in_nI (by omega) (by decide)
      refine va_iast hx hb hK hP hD hS 1 0 rfl rfl hi_7 dX12_skipper_94 (fun H locs hP hD hS => ?_)
      have hP : va_P E.1 vwCl ((h0, .inr (12, mG q i_taped i_size i_sort i_what i_at i_end i_worth i_faultKind i_faultPlace i_got i_worked i_deliveries i_isPlanned i_bestDone i_bestCost)) :: (q 10, .inl (E.2.1 0, 336, .inl (upd a_rules (nI ((48 * b) + k)).toNatClampNeg x_6))) :: wr) H := hP
      have hD : va_D A ((h0, .inr (12, mG q i_taped i_size i_sort i_what i_at i_end i_worth i_faultKind i_faultPlace i_got i_worked i_deliveries i_isPlanned i_bestDone i_bestCost)) :: (q 10, .inl (E.2.1 0, 336, .inl (upd a_rules (nI ((48 * b) + k)).toNatClampNeg x_6))) :: wr) := hD
      obtain ⟨f_8, ef_8⟩ : ∃ g : Nat → Int32, g = upd a_rules (nI ((48 * b) + k)).toNatClampNeg x_6 := ⟨_, rfl⟩
      rw [← ef_8] at hP hD
      refine lv_iinc (v := (nI (k + 1))) (lv' := [(2, .int (nI (k + 1))), (0, .ref h0), (1, .int (nI b))]) hx hb dX12_skipper_95 hl (k := 2) rfl (show nI k + 1 = nI (k + 1) from nI_1 k) (by decide) rfl (fun ls hl => ?_)
      refine lv_goto (tgt := 68) hx hb dX12_skipper_98 (by decide) ?_
      exact ih (k + 1) f_8 _ _ _ (by omega) (by omega) hP hD hS (lv_sub hl [1, 2, 0] rfl)
set_option maxHeartbeats 4000000 in
set_option maxRecDepth 100000 in
theorem c_X12_skipper (l : Launch) (E : vE) (h0 : Nat) (q : Nat → Nat) (i_size : Int32) (i_sort : Int32) (i_what : Int32) (i_at : Int32) (i_end : Int32) (i_worth : Int32) (i_faultKind : Int32) (i_faultPlace : Int32) (i_got : Int32) (i_worked : Int32) (i_deliveries : Int32) (i_isPlanned : Int32) (i_bestDone : Int32) (i_bestCost : Int32) (ln : Nat) (a_tape : Nat → Int32) (a_rules : Nat → Int32) (a_ruleMany : Nat → Int32) (b : Int32) (sz : Nat) (hln : ln ≤ 800) (hI_ruleMany : ∀ k : Nat, k < 7 → inR (a_ruleMany k) 0 12 = true) : Met l yX12_skipper wsX12_skipper ({ frames := 8, cells := 0, slots := 0, locals := 178 }) (pcW E [.ref h0, .int b] sz [(h0, .inr (12, mG q (nI ln) i_size i_sort i_what i_at i_end i_worth i_faultKind i_faultPlace i_got i_worked i_deliveries i_isPlanned i_bestDone i_bestCost)), (q 0, .inl (E.2.1 3, 800, .inl a_tape)), (q 10, .inl (E.2.1 0, 336, .inl a_rules)), (q 11, .inl (E.2.1 0, 7, .inl a_ruleMany))]) (va_Qi (fun (r : Int32) (u : Int32 × Int32 × Int32 × Int32 × Int32 × Int32 × Int32 × Int32 × Int32 × (Nat → Int32) × (Nat → Int32)) => match u with | (so2, wh2, at2, wo2, fk2, fp2, go2, en2, si2, b_rules, b_ruleMany) => True) (fun (u : Int32 × Int32 × Int32 × Int32 × Int32 × Int32 × Int32 × Int32 × Int32 × (Nat → Int32) × (Nat → Int32)) (t : State) => match u with | (so2, wh2, at2, wo2, fk2, fp2, go2, en2, si2, b_rules, b_ruleMany) => (∀ k : Nat, k < 7 → inR (b_ruleMany k) 0 12 = true) ∧ wB E (va_A [(h0, .inr (12, mG q (nI ln) i_size i_sort i_what i_at i_end i_worth i_faultKind i_faultPlace i_got i_worked i_deliveries i_isPlanned i_bestDone i_bestCost)), (q 0, .inl (E.2.1 3, 800, .inl a_tape)), (q 10, .inl (E.2.1 0, 336, .inl a_rules)), (q 11, .inl (E.2.1 0, 7, .inl a_ruleMany))] sz) [(h0, .inr (12, mG q 0 si2 so2 wh2 at2 en2 wo2 fk2 fp2 go2 i_worked i_deliveries i_isPlanned i_bestDone i_bestCost)), (q 0, .inl (E.2.1 3, 800, .inl a_tape)), (q 10, .inl (E.2.1 0, 336, .inl b_rules)), (q 11, .inl (E.2.1 0, 7, .inl b_ruleMany))] t) (va_A [(h0, .inr (12, mG q (nI ln) i_size i_sort i_what i_at i_end i_worth i_faultKind i_faultPlace i_got i_worked i_deliveries i_isPlanned i_bestDone i_bestCost)), (q 0, .inl (E.2.1 3, 800, .inl a_tape)), (q 10, .inl (E.2.1 0, 336, .inl a_rules)), (q 11, .inl (E.2.1 0, 7, .inl a_ruleMany))] sz)) 0 0 (va_A [(h0, .inr (12, mG q (nI ln) i_size i_sort i_what i_at i_end i_worth i_faultKind i_faultPlace i_got i_worked i_deliveries i_isPlanned i_bestDone i_bestCost)), (q 0, .inl (E.2.1 3, 800, .inl a_tape)), (q 10, .inl (E.2.1 0, 336, .inl a_rules)), (q 11, .inl (E.2.1 0, 7, .inl a_ruleMany))] sz) := by
  refine Met.ofW (cc := cX12_skipper) (maxL := 3) (ret := (some .int)) (by decide) rfl ?_
  intro p e s m args below meth c s₁ B hml hv
  obtain ⟨rfl, hsz, hP, hkn, hD0, hst⟩ := hv
  have hx := B.exec
  have hb := B.bytes
  have hr := B.returns
  have hts := atoms_spec (ws := wsX12_skipper) B.pre
  have hown : s.vm.findClass RX12 = some m.cls := findClass_of_methodNamed B.named
  have hlocks := B.notSynchronized
  subst hsz
  have hD := hD0.self (sz := s.heap.size)
  have hK := hkn.1
  have hAO := hkn.2.2.1
  generalize hAe : va_A [(h0, .inr (12, mG q (nI ln) i_size i_sort i_what i_at i_end i_worth i_faultKind i_faultPlace i_got i_worked i_deliveries i_isPlanned i_bestDone i_bestCost)), (q 0, .inl (E.2.1 3, 800, .inl a_tape)), (q 10, .inl (E.2.1 0, 336, .inl a_rules)), (q 11, .inl (E.2.1 0, 7, .inl a_ruleMany))] s.heap.size = A at hD hst ⊢
  have hA : ∀ q : Nat, s.heap.size ≤ q → A q := fun q h => by rw [← hAe]; exact Or.inr h
  have hS : va_S A s.heap s.heap [] := va_S.rf
  have hP : va_P E.1 vwCl [(h0, .inr (12, mG q (nI ln) i_size i_sort i_what i_at i_end i_worth i_faultKind i_faultPlace i_got i_worked i_deliveries i_isPlanned i_bestDone i_bestCost)), (q 0, .inl (E.2.1 3, 800, .inl a_tape)), (q 10, .inl (E.2.1 0, 336, .inl a_rules)), (q 11, .inl (E.2.1 0, 7, .inl a_ruleMany))] s.heap := hP
  have hl := lv_entry ([.ref h0, .int b]) (n := 3) (Nat.le_of_ble_eq_true rfl)
  rw [lg_entry_eq]
  generalize (lg_sl ([.ref h0, .int b]) ++ List.replicate (3 - (lg_sl ([.ref h0, .int b])).length) Slot.unset).toArray = ls at hl ⊢
  have hl : lv_has ls 3 [(0, .ref h0), (1, .int b)] := hl
  have fl13 := hts (.fieldLink RX12 13 "BoatsHomeModel" "faultPlace" "I") (by first | exact List.mem_of_getElem? (i := 2) rfl | decide +kernel)
  have fl17 := hts (.fieldLink RX12 17 "BoatsHomeModel" "rules" "[I") (by first | exact List.mem_of_getElem? (i := 5) rfl | decide +kernel)
  have fl21 := hts (.fieldLink RX12 21 "BoatsHomeModel" "ruleMany" "[I") (by first | exact List.mem_of_getElem? (i := 3) rfl | decide +kernel)
  have fl180 := hts (.fieldLink RX12 180 "BoatsHomeModel" "sort" "I") (by first | exact List.mem_of_getElem? (i := 4) rfl | decide +kernel)
  have fl200 := hts (.fieldLink RX12 200 "BoatsHomeModel" "faultKind" "I") (by first | exact List.mem_of_getElem? (i := 1) rfl | decide +kernel)
  have inX12 : ∀ w ∈ u_ws RX12 TX12 59, w ∈ wsX12_skipper := by first | exact fun w h9 => (List.mem_cons_of_mem _ (List.mem_append_right _ h9)) | decide +kernel
  refine lv_aload_n hx hb dX12_skipper_0 rfl (lv_at hl 0 rfl) ?_
  have hPc := hP.sub (ws' := [(h0, .inr (12, mG q (nI ln) i_size i_sort i_what i_at i_end i_worth i_faultKind i_faultPlace i_got i_worked i_deliveries i_isPlanned i_bestDone i_bestCost))]) [0] rfl
  have hDc := hD.sub (ws' := [(h0, .inr (12, mG q (nI ln) i_size i_sort i_what i_at i_end i_worth i_faultKind i_faultPlace i_got i_worked i_deliveries i_isPlanned i_bestDone i_bestCost))]) [0] (by decide) rfl
  have hFc := va_free (wc := [(h0, .inr (12, mG q (nI ln) i_size i_sort i_what i_at i_end i_worth i_faultKind i_faultPlace i_got i_worked i_deliveries i_isPlanned i_bestDone i_bestCost))]) hD hS hA [0] rfl
  refine va_callv (va_runV (As := []) (rest := []) ⟨hx, hb, hml, hown, hts⟩ (c_X12_taking l E h0 q i_size i_sort i_what i_at i_end i_worth i_faultKind i_faultPlace i_got i_worked i_deliveries i_isPlanned i_bestDone i_bestCost ln s.heap.size ) (cwV 0 hts gX12_skipper_X12_taking rfl rfl rfl hdV_X12_taking ⟨Nat.le_of_ble_eq_true rfl, Nat.le_of_ble_eq_true rfl⟩) ⟨pcW_blind, va_recv hK hPc (ci := 12) (q0 := 0) rfl rfl, (pcW_pre hPc hkn hDc hst hS hFc)⟩ rfl rfl hl.1 rfl (lv_room (Nat.le_of_ble_eq_true rfl)) dX12_skipper_1 ⟨Nat.le_of_ble_eq_true rfl, Nat.le_of_ble_eq_true rfl⟩) hS (fun q _ h => hFc q h) hFc (fun u t H1 locs ht hvm hw_2 hB hz1 hk1 hS => ?_)
  obtain ⟨hP1, hD1⟩ := hB
  rw [ht] at hP1
  try dsimp only at hw_2
  obtain ⟨hP, hD⟩ := va_join (wr := [(q 0, .inl (E.2.1 3, 800, .inl a_tape)), (q 10, .inl (E.2.1 0, 336, .inl a_rules)), (q 11, .inl (E.2.1 0, 7, .inl a_ruleMany))]) (w1 := [(h0, .inr (12, mG q 0 (nI ln) i_sort i_what i_at 0 i_worth i_faultKind i_faultPlace i_got i_worked i_deliveries i_isPlanned i_bestDone i_bestCost))]) hP hD [0] [1, 2, 3] rfl rfl (by decide) (by decide) hk1 hFc hP1 hD1
  generalize H1 = H at hP hS ⊢
  have hP : va_P E.1 vwCl [(q 0, .inl (E.2.1 3, 800, .inl a_tape)), (q 10, .inl (E.2.1 0, 336, .inl a_rules)), (q 11, .inl (E.2.1 0, 7, .inl a_ruleMany)), (h0, .inr (12, mG q 0 (nI ln) i_sort i_what i_at 0 i_worth i_faultKind i_faultPlace i_got i_worked i_deliveries i_isPlanned i_bestDone i_bestCost))] H := hP
  have hD : va_D A [(q 0, .inl (E.2.1 3, 800, .inl a_tape)), (q 10, .inl (E.2.1 0, 336, .inl a_rules)), (q 11, .inl (E.2.1 0, 7, .inl a_ruleMany)), (h0, .inr (12, mG q 0 (nI ln) i_sort i_what i_at 0 i_worth i_faultKind i_faultPlace i_got i_worked i_deliveries i_isPlanned i_bestDone i_bestCost))] := hD
  refine lv_iload_n hx hb dX12_skipper_4 rfl (lv_at hl 1 rfl) ?_
  have hPc := hP.sub (ws' := []) [] rfl
  have hDc := hD.sub (ws' := []) [] (by decide) rfl
  have hFc := va_free (wc := []) hD hS hA [] rfl
  refine va_calli (va_runS (As := [.int b]) (rest := []) ⟨hx, hb, hml, hown, hts⟩ (c_X12_isBoat l E b H.size ) (va_cwS 1 hts gX12_skipper_X12_isBoat rfl rfl rfl hdS_X12_isBoat ⟨Nat.le_of_ble_eq_true rfl, Nat.le_of_ble_eq_true rfl⟩) ⟨pcW_blind, (pcW_pre hPc hkn hDc hst hS hFc)⟩ rfl rfl hl.1 rfl (lv_room (Nat.le_of_ble_eq_true rfl)) dX12_skipper_5 ⟨Nat.le_of_ble_eq_true rfl, Nat.le_of_ble_eq_true rfl⟩) hS (fun q _ h => hFc q h) hFc (fun r_3 u t H1 locs ht hvm hw_4 hB hz1 hk1 hS => ?_)
  obtain ⟨hP1, hD1⟩ := hB
  rw [ht] at hP1
  try dsimp only at hw_4
  obtain ⟨hP, hD⟩ := va_join (wr := [(q 0, .inl (E.2.1 3, 800, .inl a_tape)), (q 10, .inl (E.2.1 0, 336, .inl a_rules)), (q 11, .inl (E.2.1 0, 7, .inl a_ruleMany)), (h0, .inr (12, mG q 0 (nI ln) i_sort i_what i_at 0 i_worth i_faultKind i_faultPlace i_got i_worked i_deliveries i_isPlanned i_bestDone i_bestCost))]) (w1 := []) hP hD [] [0, 1, 2, 3] rfl rfl (by decide) (by decide) hk1 hFc hP1 hD1
  generalize H1 = H at hP hS ⊢
  have hP : va_P E.1 vwCl [(q 0, .inl (E.2.1 3, 800, .inl a_tape)), (q 10, .inl (E.2.1 0, 336, .inl a_rules)), (q 11, .inl (E.2.1 0, 7, .inl a_ruleMany)), (h0, .inr (12, mG q 0 (nI ln) i_sort i_what i_at 0 i_worth i_faultKind i_faultPlace i_got i_worked i_deliveries i_isPlanned i_bestDone i_bestCost))] H := hP
  have hD : va_D A [(q 0, .inl (E.2.1 3, 800, .inl a_tape)), (q 10, .inl (E.2.1 0, 336, .inl a_rules)), (q 11, .inl (E.2.1 0, 7, .inl a_ruleMany)), (h0, .inr (12, mG q 0 (nI ln) i_sort i_what i_at 0 i_worth i_faultKind i_faultPlace i_got i_worked i_deliveries i_isPlanned i_bestDone i_bestCost))] := hD
  refine lv_if_ne (tgt := 14) hx hb dX12_skipper_8 (by decide) (fun c_5 => ?_) (fun c_5 => ?_)
  · have b_6 : inR b 0 5 = true := bn hw_4 c_5
    obtain ⟨j_b, hj_b, ej_b⟩ := inR_nI (n := 5) (by decide) b_6
    subst ej_b
    refine lv_aload_n hx hb dX12_skipper_14 rfl (lv_at hl 0 rfl) ?_
    refine lv_iconst (v := 0) hx hb dX12_skipper_15 (by decide) ?_
    refine va_put (D := E.1) (ci := 12) (v := .int 0) (ty := .int) (C := RX12) (T := TX12) (N := 59) hx hb hts inX12 tyX12 tyX12_ok nmX12 hown hK hP hD hS 3 rfl rfl 8 (by decide) fl200 (fun _ h9 => h9) rfl (by decide +kernel) rfl rfl (Nat.le_of_ble_eq_true rfl) dX12_skipper_16 (fun H locs hP hD hS => ?_)
    have hP : va_P E.1 vwCl [(q 0, .inl (E.2.1 3, 800, .inl a_tape)), (q 10, .inl (E.2.1 0, 336, .inl a_rules)), (q 11, .inl (E.2.1 0, 7, .inl a_ruleMany)), (h0, .inr (12, mG q 0 (nI ln) i_sort i_what i_at 0 i_worth 0 i_faultPlace i_got i_worked i_deliveries i_isPlanned i_bestDone i_bestCost))] H := hP
    have hD : va_D A [(q 0, .inl (E.2.1 3, 800, .inl a_tape)), (q 10, .inl (E.2.1 0, 336, .inl a_rules)), (q 11, .inl (E.2.1 0, 7, .inl a_ruleMany)), (h0, .inr (12, mG q 0 (nI ln) i_sort i_what i_at 0 i_worth 0 i_faultPlace i_got i_worked i_deliveries i_isPlanned i_bestDone i_bestCost))] := hD
    refine lv_aload_n hx hb dX12_skipper_19 rfl (lv_at hl 0 rfl) ?_
    refine lv_iconst (v := (-1)) hx hb dX12_skipper_20 (by decide) ?_
    refine va_put (D := E.1) (ci := 12) (v := .int (-1)) (ty := .int) (C := RX12) (T := TX12) (N := 59) hx hb hts inX12 tyX12 tyX12_ok nmX12 hown hK hP hD hS 3 rfl rfl 9 (by decide) fl13 (fun _ h9 => h9) rfl (by decide +kernel) rfl rfl (Nat.le_of_ble_eq_true rfl) dX12_skipper_21 (fun H locs hP hD hS => ?_)
    have hP : va_P E.1 vwCl [(q 0, .inl (E.2.1 3, 800, .inl a_tape)), (q 10, .inl (E.2.1 0, 336, .inl a_rules)), (q 11, .inl (E.2.1 0, 7, .inl a_ruleMany)), (h0, .inr (12, mG q 0 (nI ln) i_sort i_what i_at 0 i_worth 0 (-1) i_got i_worked i_deliveries i_isPlanned i_bestDone i_bestCost))] H := hP
    have hD : va_D A [(q 0, .inl (E.2.1 3, 800, .inl a_tape)), (q 10, .inl (E.2.1 0, 336, .inl a_rules)), (q 11, .inl (E.2.1 0, 7, .inl a_ruleMany)), (h0, .inr (12, mG q 0 (nI ln) i_sort i_what i_at 0 i_worth 0 (-1) i_got i_worked i_deliveries i_isPlanned i_bestDone i_bestCost))] := hD
    refine lv_aload_n hx hb dX12_skipper_24 rfl (lv_at hl 0 rfl) ?_
    refine va_get (D := E.1) (ci := 12) (v := .ref (q 11)) (C := RX12) (T := TX12) (N := 59) hx hb hts inX12 hown hK hP 3 rfl rfl 11 (by decide) fl21 (fun _ h9 => h9) rfl dX12_skipper_25 ?_
    refine lv_bipush (v := 6) hx hb dX12_skipper_28 (by decide) ?_
    refine lv_iconst (v := 0) hx hb dX12_skipper_30 (by decide) ?_
    refine va_iast hx hb hK hP hD hS 2 0 rfl rfl (show vp_in 6 7 from by unfold vp_in; decide) dX12_skipper_31 (fun H locs hP hD hS => ?_)
    have hP : va_P E.1 vwCl [(q 0, .inl (E.2.1 3, 800, .inl a_tape)), (q 10, .inl (E.2.1 0, 336, .inl a_rules)), (q 11, .inl (E.2.1 0, 7, .inl (upd a_ruleMany (Int32.toNatClampNeg 6) 0))), (h0, .inr (12, mG q 0 (nI ln) i_sort i_what i_at 0 i_worth 0 (-1) i_got i_worked i_deliveries i_isPlanned i_bestDone i_bestCost))] H := hP
    have hD : va_D A [(q 0, .inl (E.2.1 3, 800, .inl a_tape)), (q 10, .inl (E.2.1 0, 336, .inl a_rules)), (q 11, .inl (E.2.1 0, 7, .inl (upd a_ruleMany (Int32.toNatClampNeg 6) 0))), (h0, .inr (12, mG q 0 (nI ln) i_sort i_what i_at 0 i_worth 0 (-1) i_got i_worked i_deliveries i_isPlanned i_bestDone i_bestCost))] := hD
    obtain ⟨f_7, ef_7⟩ : ∃ g : Nat → Int32, g = upd a_ruleMany (Int32.toNatClampNeg 6) 0 := ⟨_, rfl⟩
    rw [← ef_7] at hP hD
    have hI_8 : ∀ k : Nat, k < 7 → inR (f_7 k) 0 12 = true := by rw [ef_7]; exact all_upd (P := fun z => inR z 0 12 = true) hI_ruleMany (by decide)
    refine lv_aload_n hx hb dX12_skipper_32 rfl (lv_at hl 0 rfl) ?_
    have hPc := hP.sub (ws' := [(h0, .inr (12, mG q 0 (nI ln) i_sort i_what i_at (nI 0) i_worth 0 (-1) i_got i_worked i_deliveries i_isPlanned i_bestDone i_bestCost)), (q 0, .inl (E.2.1 3, 800, .inl a_tape))]) [3, 0] rfl
    have hDc := hD.sub (ws' := [(h0, .inr (12, mG q 0 (nI ln) i_sort i_what i_at (nI 0) i_worth 0 (-1) i_got i_worked i_deliveries i_isPlanned i_bestDone i_bestCost)), (q 0, .inl (E.2.1 3, 800, .inl a_tape))]) [3, 0] (by decide) rfl
    have hFc := va_free (wc := [(h0, .inr (12, mG q 0 (nI ln) i_sort i_what i_at (nI 0) i_worth 0 (-1) i_got i_worked i_deliveries i_isPlanned i_bestDone i_bestCost)), (q 0, .inl (E.2.1 3, 800, .inl a_tape))]) hD hS hA [3, 0] rfl
    refine va_callv (va_runV (As := []) (rest := []) ⟨hx, hb, hml, hown, hts⟩ (c_X12_scan l E h0 q 0 i_sort i_what i_at i_worth 0 (-1) i_got i_worked i_deliveries i_isPlanned i_bestDone i_bestCost ln 0 a_tape H.size (by omega) (by omega)) (cwV 0 hts gX12_skipper_X12_scan rfl rfl rfl hdV_X12_scan ⟨Nat.le_of_ble_eq_true rfl, Nat.le_of_ble_eq_true rfl⟩) ⟨pcW_blind, va_recv hK hPc (ci := 12) (q0 := 0) rfl rfl, (pcW_pre hPc hkn hDc hst hS hFc)⟩ rfl rfl hl.1 rfl (lv_room (Nat.le_of_ble_eq_true rfl)) dX12_skipper_33 ⟨Nat.le_of_ble_eq_true rfl, Nat.le_of_ble_eq_true rfl⟩) hS (fun q _ h => hFc q h) hFc (fun u t H1 locs ht hvm hw_10 hB hz1 hk1 hS => ?_)
    obtain ⟨u_11, u_12, u_13, u_14, u_15⟩ := u
    obtain ⟨hf_16, hf_17, hP1, hD1⟩ := hB
    rw [ht] at hP1
    try dsimp only at hw_10
    obtain ⟨hP, hD⟩ := va_join (wr := [(q 10, .inl (E.2.1 0, 336, .inl a_rules)), (q 11, .inl (E.2.1 0, 7, .inl f_7))]) (w1 := [(h0, .inr (12, mG q 0 (nI ln) u_11 u_12 u_13 (nI u_14) u_15 0 (-1) i_got i_worked i_deliveries i_isPlanned i_bestDone i_bestCost)), (q 0, .inl (E.2.1 3, 800, .inl a_tape))]) hP hD [3, 0] [1, 2] rfl rfl (by decide) (by decide) hk1 hFc hP1 hD1
    generalize H1 = H at hP hS ⊢
    have hP : va_P E.1 vwCl [(q 10, .inl (E.2.1 0, 336, .inl a_rules)), (q 11, .inl (E.2.1 0, 7, .inl f_7)), (h0, .inr (12, mG q 0 (nI ln) u_11 u_12 u_13 (nI u_14) u_15 0 (-1) i_got i_worked i_deliveries i_isPlanned i_bestDone i_bestCost)), (q 0, .inl (E.2.1 3, 800, .inl a_tape))] H := hP
    have hD : va_D A [(q 10, .inl (E.2.1 0, 336, .inl a_rules)), (q 11, .inl (E.2.1 0, 7, .inl f_7)), (h0, .inr (12, mG q 0 (nI ln) u_11 u_12 u_13 (nI u_14) u_15 0 (-1) i_got i_worked i_deliveries i_isPlanned i_bestDone i_bestCost)), (q 0, .inl (E.2.1 3, 800, .inl a_tape))] := hD
    have hPl := hP.sub (ws' := [(h0, .inr (12, mG q 0 (nI ln) u_11 u_12 u_13 (nI u_14) u_15 0 (-1) i_got i_worked i_deliveries i_isPlanned i_bestDone i_bestCost)), (q 0, .inl (E.2.1 3, 800, .inl a_tape)), (q 10, .inl (E.2.1 0, 336, .inl a_rules)), (q 11, .inl (E.2.1 0, 7, .inl f_7))]) [2, 3, 0, 1] rfl
    have hDl := hD.sub (ws' := [(h0, .inr (12, mG q 0 (nI ln) u_11 u_12 u_13 (nI u_14) u_15 0 (-1) i_got i_worked i_deliveries i_isPlanned i_bestDone i_bestCost)), (q 0, .inl (E.2.1 3, 800, .inl a_tape)), (q 10, .inl (E.2.1 0, 336, .inl a_rules)), (q 11, .inl (E.2.1 0, 7, .inl f_7))]) [2, 3, 0, 1] (by decide) rfl
    refine lm_skip1 E h0 q 0 i_worked i_deliveries i_isPlanned i_bestDone i_bestCost ln j_b a_tape hx hb hml hown hts hkn hst hA (by omega) (fun n_18 n_19 n_20 n_21 n_22 n_23 n_24 n_25 n_26 n_27 H locs ls hen hI_ruleMany hP hD hS hl => ?_) (fun w_28 w_29 w_30 w_31 w_32 w_33 w_34 w_35 w_36 w_37 H locs ls hI_ruleMany hP hD hS hl => ?_) (2 * (ln - u_14) + 2) u_11 u_12 u_13 u_14 u_15 0 (-1) i_got a_rules f_7 _ _ _ (by split <;> omega) (by omega) hI_8 hPl hDl hS (lv_sub hl [0, 1] rfl)
    · have hP : va_P E.1 vwCl [(h0, .inr (12, mG q 0 (nI ln) n_18 n_19 n_20 (nI n_21) n_22 n_23 n_24 n_25 i_worked i_deliveries i_isPlanned i_bestDone i_bestCost)), (q 0, .inl (E.2.1 3, 800, .inl a_tape)), (q 10, .inl (E.2.1 0, 336, .inl n_26)), (q 11, .inl (E.2.1 0, 7, .inl n_27))] H := hP
      have hD : va_D A [(h0, .inr (12, mG q 0 (nI ln) n_18 n_19 n_20 (nI n_21) n_22 n_23 n_24 n_25 i_worked i_deliveries i_isPlanned i_bestDone i_bestCost)), (q 0, .inl (E.2.1 3, 800, .inl a_tape)), (q 10, .inl (E.2.1 0, 336, .inl n_26)), (q 11, .inl (E.2.1 0, 7, .inl n_27))] := hD
      refine lv_aload_n hx hb dX12_skipper_53 rfl (lv_at hl 0 rfl) ?_
      refine va_get (D := E.1) (ci := 12) (v := .ref (q 11)) (C := RX12) (T := TX12) (N := 59) hx hb hts inX12 hown hK hP 0 rfl rfl 11 (by decide) fl21 (fun _ h9 => h9) rfl dX12_skipper_54 ?_
      refine lv_iload_n hx hb dX12_skipper_57 rfl (lv_at hl 1 rfl) ?_
      refine lv_aload_n hx hb dX12_skipper_58 rfl (lv_at hl 0 rfl) ?_
      refine va_get (D := E.1) (ci := 12) (v := .ref (q 11)) (C := RX12) (T := TX12) (N := 59) hx hb hts inX12 hown hK hP 0 rfl rfl 11 (by decide) fl21 (fun _ h9 => h9) rfl dX12_skipper_59 ?_
      refine lv_bipush (v := 6) hx hb dX12_skipper_62 (by decide) ?_
      refine va_iald hx hb hK hP 3 0 rfl rfl (show vp_in 6 7 from by unfold vp_in; decide) dX12_skipper_64 ?_
      refine lv_topi (fun x_38 ex_38 => ?_)
      have hv_39 : inR x_38 0 12 = true := by rw [ex_38]; exact hI_ruleMany _ (vin_cl (show vp_in 6 7 from by unfold vp_in; decide))
      obtain ⟨w_40, hw_41, ew_42⟩ := inR_nI (n := 12) (by decide) hv_39
      subst ew_42
      have hi_43 : vp_in (nI j_b) 7 := vp_in_nI (by omega) (by decide)
      refine va_iast hx hb hK hP hD hS 3 0 rfl rfl hi_43 dX12_skipper_65 (fun H locs hP hD hS => ?_)
      have hP : va_P E.1 vwCl [(h0, .inr (12, mG q 0 (nI ln) n_18 n_19 n_20 (nI n_21) n_22 n_23 n_24 n_25 i_worked i_deliveries i_isPlanned i_bestDone i_bestCost)), (q 0, .inl (E.2.1 3, 800, .inl a_tape)), (q 10, .inl (E.2.1 0, 336, .inl n_26)), (q 11, .inl (E.2.1 0, 7, .inl (upd n_27 (nI j_b).toNatClampNeg (nI w_40))))] H := hP
      have hD : va_D A [(h0, .inr (12, mG q 0 (nI ln) n_18 n_19 n_20 (nI n_21) n_22 n_23 n_24 n_25 i_worked i_deliveries i_isPlanned i_bestDone i_bestCost)), (q 0, .inl (E.2.1 3, 800, .inl a_tape)), (q 10, .inl (E.2.1 0, 336, .inl n_26)), (q 11, .inl (E.2.1 0, 7, .inl (upd n_27 (nI j_b).toNatClampNeg (nI w_40))))] := hD
      obtain ⟨f_44, ef_44⟩ : ∃ g : Nat → Int32, g = upd n_27 (nI j_b).toNatClampNeg (nI w_40) := ⟨_, rfl⟩
      rw [← ef_44] at hP hD
      have hI_45 : ∀ k : Nat, k < 7 → inR (f_44 k) 0 12 = true := by rw [ef_44]; exact all_upd (P := fun z => inR z 0 12 = true) hI_ruleMany (inR_mk (n := 12) (by decide) (by omega))
      refine lv_iconst (v := 0) hx hb dX12_skipper_66 (by decide) ?_
      refine lv_istore_n (lv' := [(2, .int 0), (0, .ref h0), (1, .int (nI j_b))]) hx hb dX12_skipper_67 rfl hl (by decide) rfl (fun ls hl => ?_)
      have hPl := hP.sub (ws' := [(h0, .inr (12, mG q 0 (nI ln) n_18 n_19 n_20 (nI n_21) n_22 n_23 n_24 n_25 i_worked i_deliveries i_isPlanned i_bestDone i_bestCost)), (q 10, .inl (E.2.1 0, 336, .inl n_26)), (q 0, .inl (E.2.1 3, 800, .inl a_tape)), (q 11, .inl (E.2.1 0, 7, .inl f_44))]) [0, 2, 1, 3] rfl
      have hDl := hD.sub (ws' := [(h0, .inr (12, mG q 0 (nI ln) n_18 n_19 n_20 (nI n_21) n_22 n_23 n_24 n_25 i_worked i_deliveries i_isPlanned i_bestDone i_bestCost)), (q 10, .inl (E.2.1 0, 336, .inl n_26)), (q 0, .inl (E.2.1 3, 800, .inl a_tape)), (q 11, .inl (E.2.1 0, 7, .inl f_44))]) [0, 2, 1, 3] (by decide) rfl
      refine lm_skip2 E h0 q 0 (nI ln) n_18 n_19 n_20 (nI n_21) n_22 n_23 n_24 n_25 i_worked i_deliveries i_isPlanned i_bestDone i_bestCost j_b ([(q 0, .inl (E.2.1 3, 800, .inl a_tape)), (q 11, .inl (E.2.1 0, 7, .inl f_44))]) hx hb hml hown hts hkn hst hA (by omega) (fun n_46 H locs ls  hP hD hS hl => ?_) 49 0 n_26 _ _ _ (by omega) (by omega) hPl hDl hS (lv_sub hl [1, 2, 0] rfl)
      have hP : va_P E.1 vwCl [(h0, .inr (12, mG q 0 (nI ln) n_18 n_19 n_20 (nI n_21) n_22 n_23 n_24 n_25 i_worked i_deliveries i_isPlanned i_bestDone i_bestCost)), (q 10, .inl (E.2.1 0, 336, .inl n_46)), (q 0, .inl (E.2.1 3, 800, .inl a_tape)), (q 11, .inl (E.2.1 0, 7, .inl f_44))] H := hP
      have hD : va_D A [(h0, .inr (12, mG q 0 (nI ln) n_18 n_19 n_20 (nI n_21) n_22 n_23 n_24 n_25 i_worked i_deliveries i_isPlanned i_bestDone i_bestCost)), (q 10, .inl (E.2.1 0, 336, .inl n_46)), (q 0, .inl (E.2.1 3, 800, .inl a_tape)), (q 11, .inl (E.2.1 0, 7, .inl f_44))] := hD
      refine lv_aload_n hx hb dX12_skipper_101 rfl (lv_at hl 0 rfl) ?_
      refine va_get (D := E.1) (ci := 12) (v := .ref (q 11)) (C := RX12) (T := TX12) (N := 59) hx hb hts inX12 hown hK hP 0 rfl rfl 11 (by decide) fl21 (fun _ h9 => h9) rfl dX12_skipper_102 ?_
      refine lv_iload_n hx hb dX12_skipper_105 rfl (lv_at hl 1 rfl) ?_
      refine va_iald hx hb hK hP 3 0 rfl rfl hi_43 dX12_skipper_106 ?_
      refine lv_topi (fun x_47 ex_47 => ?_)
      have hv_48 : inR x_47 0 12 = true := by rw [ex_47]; exact hI_45 _ (vin_cl hi_43)
      obtain ⟨w_49, hw_50, ew_51⟩ := inR_nI (n := 12) (by decide) hv_48
      subst ew_51
      have hP9 := hP.sub (ws' := [(h0, .inr (12, mG q 0 (nI ln) n_18 n_19 n_20 (nI n_21) n_22 n_23 n_24 n_25 i_worked i_deliveries i_isPlanned i_bestDone i_bestCost)), (q 0, .inl (E.2.1 3, 800, .inl a_tape)), (q 10, .inl (E.2.1 0, 336, .inl n_46)), (q 11, .inl (E.2.1 0, 7, .inl f_44))]) [0, 2, 1, 3] rfl
      have hD9 := hD.sub (ws' := [(h0, .inr (12, mG q 0 (nI ln) n_18 n_19 n_20 (nI n_21) n_22 n_23 n_24 n_25 i_worked i_deliveries i_isPlanned i_bestDone i_bestCost)), (q 0, .inl (E.2.1 3, 800, .inl a_tape)), (q 10, .inl (E.2.1 0, 336, .inl n_46)), (q 11, .inl (E.2.1 0, 7, .inl f_44))]) [0, 2, 1, 3] (by decide) rfl
      exact W.iret (v := (nI w_49)) hx hb hr (fun t ht hW => ⟨⟨(nI w_49), (n_18, n_19, n_20, n_22, n_23, n_24, n_25, nI n_21, nI ln, n_46, f_44), rfl, trivial, hI_45, by rw [ht]; exact hP9, hD9⟩, hS.F ht⟩) hS.2.2 dX12_skipper_107
    · have hP : va_P E.1 vwCl [(h0, .inr (12, mG q 0 (nI ln) w_28 w_29 w_30 (nI w_31) w_32 w_33 w_34 w_35 i_worked i_deliveries i_isPlanned i_bestDone i_bestCost)), (q 0, .inl (E.2.1 3, 800, .inl a_tape)), (q 10, .inl (E.2.1 0, 336, .inl w_36)), (q 11, .inl (E.2.1 0, 7, .inl w_37))] H := hP
      have hD : va_D A [(h0, .inr (12, mG q 0 (nI ln) w_28 w_29 w_30 (nI w_31) w_32 w_33 w_34 w_35 i_worked i_deliveries i_isPlanned i_bestDone i_bestCost)), (q 0, .inl (E.2.1 3, 800, .inl a_tape)), (q 10, .inl (E.2.1 0, 336, .inl w_36)), (q 11, .inl (E.2.1 0, 7, .inl w_37))] := hD
      refine lv_iconst (v := (-1)) hx hb dX12_skipper_51 (by decide) ?_
      have hP9 := hP.sub (ws' := [(h0, .inr (12, mG q 0 (nI ln) w_28 w_29 w_30 (nI w_31) w_32 w_33 w_34 w_35 i_worked i_deliveries i_isPlanned i_bestDone i_bestCost)), (q 0, .inl (E.2.1 3, 800, .inl a_tape)), (q 10, .inl (E.2.1 0, 336, .inl w_36)), (q 11, .inl (E.2.1 0, 7, .inl w_37))]) [0, 1, 2, 3] rfl
      have hD9 := hD.sub (ws' := [(h0, .inr (12, mG q 0 (nI ln) w_28 w_29 w_30 (nI w_31) w_32 w_33 w_34 w_35 i_worked i_deliveries i_isPlanned i_bestDone i_bestCost)), (q 0, .inl (E.2.1 3, 800, .inl a_tape)), (q 10, .inl (E.2.1 0, 336, .inl w_36)), (q 11, .inl (E.2.1 0, 7, .inl w_37))]) [0, 1, 2, 3] (by decide) rfl
      exact W.iret (v := (-1)) hx hb hr (fun t ht hW => ⟨⟨(-1), (w_28, w_29, w_30, w_32, w_33, w_34, w_35, nI w_31, nI ln, w_36, w_37), rfl, trivial, hI_ruleMany, by rw [ht]; exact hP9, hD9⟩, hS.F ht⟩) hS.2.2 dX12_skipper_52
  · have b_52 : inR b 0 5 = false := bz hw_4 c_5
    refine lv_bipush (v := (-2)) hx hb dX12_skipper_11 (by decide) ?_
    have hP9 := hP.sub (ws' := [(h0, .inr (12, mG q 0 (nI ln) i_sort i_what i_at 0 i_worth i_faultKind i_faultPlace i_got i_worked i_deliveries i_isPlanned i_bestDone i_bestCost)), (q 0, .inl (E.2.1 3, 800, .inl a_tape)), (q 10, .inl (E.2.1 0, 336, .inl a_rules)), (q 11, .inl (E.2.1 0, 7, .inl a_ruleMany))]) [3, 0, 1, 2] rfl
    have hD9 := hD.sub (ws' := [(h0, .inr (12, mG q 0 (nI ln) i_sort i_what i_at 0 i_worth i_faultKind i_faultPlace i_got i_worked i_deliveries i_isPlanned i_bestDone i_bestCost)), (q 0, .inl (E.2.1 3, 800, .inl a_tape)), (q 10, .inl (E.2.1 0, 336, .inl a_rules)), (q 11, .inl (E.2.1 0, 7, .inl a_ruleMany))]) [3, 0, 1, 2] (by decide) rfl
    exact W.iret (v := (-2)) hx hb hr (fun t ht hW => ⟨⟨(-2), (i_sort, i_what, i_at, i_worth, i_faultKind, i_faultPlace, i_got, 0, nI ln, a_rules, a_ruleMany), rfl, trivial, hI_ruleMany, by rw [ht]; exact hP9, hD9⟩, hS.F ht⟩) hS.2.2 dX12_skipper_13
