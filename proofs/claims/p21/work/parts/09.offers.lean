set_option maxHeartbeats 4000000 in
set_option maxRecDepth 100000 in
theorem c_X2_fareTo (l : Launch) (E : vE) (h0 : Nat) (g1 : Nat) (g2 : Nat) (g3 : Nat) (g4 : Nat) (g5 : Nat) (g6 : Nat) (g7 : Nat) (g8 : Nat) (on : Nat) (d1 : Nat → Int32) (d8 : Nat → Int32) (dd : Nat) (pt : Int32) (sz : Nat) (hdd : dd < 7) (hd1 : ∀ k, k < 7 → inR (d1 k) 0 9 = true) : Met l yX2_fareTo wsX2_fareTo ({ frames := 1, cells := 0, slots := 0, locals := 21 }) (pcW E [.ref h0, .int (nI dd), .int pt] sz [(h0, .inr (2, [.ref g1, .ref g2, .ref g3, .ref g4, .ref g5, .int (nI on), .ref g6, .ref g7, .ref g8])), (g1, .inl (E.2.1 0, 7, .inl d1)), (g8, .inl (E.2.1 0, 100, .inl d8))]) (va_Qi (fun (r : Int32) (_ : Unit) => True) (fun (_ : Unit) (t : State) => wB E (va_A [(h0, .inr (2, [.ref g1, .ref g2, .ref g3, .ref g4, .ref g5, .int (nI on), .ref g6, .ref g7, .ref g8])), (g1, .inl (E.2.1 0, 7, .inl d1)), (g8, .inl (E.2.1 0, 100, .inl d8))] sz) [(h0, .inr (2, [.ref g1, .ref g2, .ref g3, .ref g4, .ref g5, .int (nI on), .ref g6, .ref g7, .ref g8])), (g1, .inl (E.2.1 0, 7, .inl d1)), (g8, .inl (E.2.1 0, 100, .inl d8))] t) (va_A [(h0, .inr (2, [.ref g1, .ref g2, .ref g3, .ref g4, .ref g5, .int (nI on), .ref g6, .ref g7, .ref g8])), (g1, .inl (E.2.1 0, 7, .inl d1)), (g8, .inl (E.2.1 0, 100, .inl d8))] sz)) 0 0 (va_A [(h0, .inr (2, [.ref g1, .ref g2, .ref g3, .ref g4, .ref g5, .int (nI on), .ref g6, .ref g7, .ref g8])), (g1, .inl (E.2.1 0, 7, .inl d1)), (g8, .inl (E.2.1 0, 100, .inl d8))] sz) := by
  refine Met.ofW (cc := cX2_fareTo) (maxL := 3) (ret := (some .int)) (by decide) rfl ?_
  intro p e s m args below meth c s₁ B hml hv
  obtain ⟨rfl, hsz, hP, hkn, hD0, hst⟩ := hv
  have hx := B.exec
  have hb := B.bytes
  have hr := B.returns
  have hts := atoms_spec (ws := wsX2_fareTo) B.pre
  have hown : s.vm.findClass RX2 = some m.cls := findClass_of_methodNamed B.named
  have hlocks := B.notSynchronized
  subst hsz
  have hD := hD0.self (sz := s.heap.size)
  have hK := hkn.1
  have hAO := hkn.2.2.1
  generalize hAe : va_A [(h0, .inr (2, [.ref g1, .ref g2, .ref g3, .ref g4, .ref g5, .int (nI on), .ref g6, .ref g7, .ref g8])), (g1, .inl (E.2.1 0, 7, .inl d1)), (g8, .inl (E.2.1 0, 100, .inl d8))] s.heap.size = A at hD hst ⊢
  have hA : ∀ q : Nat, s.heap.size ≤ q → A q := fun q h => by rw [← hAe]; exact Or.inr h
  have hS : va_S A s.heap s.heap [] := va_S.rf
  have hP : va_P E.1 vwCl [(h0, .inr (2, [.ref g1, .ref g2, .ref g3, .ref g4, .ref g5, .int (nI on), .ref g6, .ref g7, .ref g8])), (g1, .inl (E.2.1 0, 7, .inl d1)), (g8, .inl (E.2.1 0, 100, .inl d8))] s.heap := hP
  have hl := lv_entry ([.ref h0, .int (nI dd), .int pt]) (n := 3) (Nat.le_of_ble_eq_true rfl)
  rw [lg_entry_eq]
  generalize (lg_sl ([.ref h0, .int (nI dd), .int pt]) ++ List.replicate (3 - (lg_sl ([.ref h0, .int (nI dd), .int pt])).length) Slot.unset).toArray = ls at hl ⊢
  have hl : lv_has ls 3 [(0, .ref h0), (1, .int (nI dd)), (2, .int pt)] := hl
  have fl9 := hts (.fieldLink RX2 9 "BoatsHome$Offers" "from" "[I") (by first | exact List.mem_of_getElem? (i := 2) rfl | decide +kernel)
  have fl37 := hts (.fieldLink RX2 37 "BoatsHome$Offers" "fares" "[I") (by first | exact List.mem_of_getElem? (i := 1) rfl | decide +kernel)
  have inX2 : ∀ w ∈ u_ws RX2 TX2 9, w ∈ wsX2_fareTo := by first | exact fun w h9 => (List.mem_cons_of_mem _ (List.mem_append_right _ h9)) | decide +kernel
  refine lv_iload_n hx hb dX2_fareTo_0 rfl (lv_at hl 2 rfl) ?_
  refine lv_bipush (v := 10) hx hb dX2_fareTo_1 (by decide) ?_
  have hPc := hP.sub (ws' := []) [] rfl
  have hDc := hD.sub (ws' := []) [] (by decide) rfl
  have hFc := va_free (wc := []) hD hS hA [] rfl
  refine va_calli (va_runSN (As := [.int pt, .int 10]) (rest := []) ⟨hx, hb, hml, hown, hts⟩ (c_X11_below l E pt 10 9 s.heap.size (lt_le (by decide))) ⟨va_cnB 2 hts gX2_fareTo_X11_below_n46 rfl rfl rfl (hkn.2.1 (.methodLinkNest RX2 46 yX11_below "BoatsHome") (by decide +kernel)) (hts (.initialized RX11) (by first | exact List.mem_of_getElem? (i := 4) rfl | decide +kernel)) (by decide +kernel) ⟨Nat.le_of_ble_eq_true rfl, Nat.le_of_ble_eq_true rfl⟩, hts (.static yX11_below) (by first | exact List.mem_of_getElem? (i := 3) rfl | decide +kernel), trivial⟩ ⟨pcW_blind, (pcW_pre hPc hkn hDc hst hS hFc)⟩ rfl rfl hl.1 rfl (lv_room (Nat.le_of_ble_eq_true rfl)) dX2_fareTo_3 ⟨Nat.le_of_ble_eq_true rfl, Nat.le_of_ble_eq_true rfl⟩) hS (fun q _ h => hFc q h) hFc (fun r_1 u t H1 locs ht hvm hw_2 hB hz1 hk1 hS => ?_)
  obtain ⟨hP1, hD1⟩ := hB
  rw [ht] at hP1
  try dsimp only at hw_2
  obtain ⟨hP, hD⟩ := va_join (wr := [(h0, .inr (2, [.ref g1, .ref g2, .ref g3, .ref g4, .ref g5, .int (nI on), .ref g6, .ref g7, .ref g8])), (g1, .inl (E.2.1 0, 7, .inl d1)), (g8, .inl (E.2.1 0, 100, .inl d8))]) (w1 := []) hP hD [] [0, 1, 2] rfl rfl (by decide) (by decide) hk1 hFc hP1 hD1
  generalize H1 = H at hP hS ⊢
  have hP : va_P E.1 vwCl [(h0, .inr (2, [.ref g1, .ref g2, .ref g3, .ref g4, .ref g5, .int (nI on), .ref g6, .ref g7, .ref g8])), (g1, .inl (E.2.1 0, 7, .inl d1)), (g8, .inl (E.2.1 0, 100, .inl d8))] H := hP
  have hD : va_D A [(h0, .inr (2, [.ref g1, .ref g2, .ref g3, .ref g4, .ref g5, .int (nI on), .ref g6, .ref g7, .ref g8])), (g1, .inl (E.2.1 0, 7, .inl d1)), (g8, .inl (E.2.1 0, 100, .inl d8))] := hD
  refine lv_if_eq (tgt := 28) hx hb dX2_fareTo_6 (by decide) (fun c_3 => ?_) (fun c_3 => ?_)
  · have b_4 : inR pt 0 9 = false := bz hw_2 c_3
    refine lv_iconst (v := (-1)) hx hb dX2_fareTo_28 (by decide) ?_
    have hP9 := hP.sub (ws' := [(h0, .inr (2, [.ref g1, .ref g2, .ref g3, .ref g4, .ref g5, .int (nI on), .ref g6, .ref g7, .ref g8])), (g1, .inl (E.2.1 0, 7, .inl d1)), (g8, .inl (E.2.1 0, 100, .inl d8))]) [0, 1, 2] rfl
    have hD9 := hD.sub (ws' := [(h0, .inr (2, [.ref g1, .ref g2, .ref g3, .ref g4, .ref g5, .int (nI on), .ref g6, .ref g7, .ref g8])), (g1, .inl (E.2.1 0, 7, .inl d1)), (g8, .inl (E.2.1 0, 100, .inl d8))]) [0, 1, 2] (by decide) rfl
    exact W.iret (v := (-1)) hx hb hr (fun t ht hW => ⟨⟨(-1), (), rfl, trivial, by rw [ht]; exact hP9, hD9⟩, hS.F ht⟩) hS.2.2 dX2_fareTo_29
  · have b_5 : inR pt 0 9 = true := bn hw_2 c_3
    refine lv_aload_n hx hb dX2_fareTo_9 rfl (lv_at hl 0 rfl) ?_
    refine va_get (D := E.1) (ci := 2) (v := .ref g8) (C := RX2) (T := TX2) (N := 9) hx hb hts inX2 hown hK hP 0 rfl rfl 8 (by decide) fl37 (fun _ h9 => h9) rfl dX2_fareTo_10 ?_
    refine lv_iload_n hx hb dX2_fareTo_13 rfl (lv_at hl 2 rfl) ?_
    refine lv_bipush (v := 10) hx hb dX2_fareTo_14 (by decide) ?_
    refine lv_imul hx hb dX2_fareTo_16 ?_
    refine lv_topi (fun x_6 ex_6 => ?_)
    refine lv_aload_n hx hb dX2_fareTo_17 rfl (lv_at hl 0 rfl) ?_
    refine va_get (D := E.1) (ci := 2) (v := .ref g1) (C := RX2) (T := TX2) (N := 9) hx hb hts inX2 hown hK hP 0 rfl rfl 0 (by decide) fl9 (fun _ h9 => h9) rfl dX2_fareTo_18 ?_
    refine lv_iload_n hx hb dX2_fareTo_21 rfl (lv_at hl 1 rfl) ?_
    have hi_7 : vp_in (nI dd) 7 := vp_in_nI hdd (by decide)
    refine va_iald hx hb hK hP 1 0 rfl rfl hi_7 dX2_fareTo_22 ?_
    refine lv_topi (fun x_8 ex_8 => ?_)
    refine lv_iadd hx hb dX2_fareTo_23 ?_
    refine lv_topi (fun x_9 ex_9 => ?_)
    have hi_10 : vp_in x_9 100 := by rw [ex_9, ex_6, ex_8]; exact ixA b_5 (a := 9) (by decide) (hd1 _ (nI_clamp_lt hdd (by decide))) (b := 9) (by decide) (M := 10) rfl (by decide) (by decide)
    refine va_iald hx hb hK hP 2 0 rfl rfl hi_10 dX2_fareTo_24 ?_
    refine lv_topi (fun x_11 ex_11 => ?_)
    refine lv_goto (tgt := 29) hx hb dX2_fareTo_25 (by decide) ?_
    have hP9 := hP.sub (ws' := [(h0, .inr (2, [.ref g1, .ref g2, .ref g3, .ref g4, .ref g5, .int (nI on), .ref g6, .ref g7, .ref g8])), (g1, .inl (E.2.1 0, 7, .inl d1)), (g8, .inl (E.2.1 0, 100, .inl d8))]) [0, 1, 2] rfl
    have hD9 := hD.sub (ws' := [(h0, .inr (2, [.ref g1, .ref g2, .ref g3, .ref g4, .ref g5, .int (nI on), .ref g6, .ref g7, .ref g8])), (g1, .inl (E.2.1 0, 7, .inl d1)), (g8, .inl (E.2.1 0, 100, .inl d8))]) [0, 1, 2] (by decide) rfl
    exact W.iret (v := x_11) hx hb hr (fun t ht hW => ⟨⟨x_11, (), rfl, trivial, by rw [ht]; exact hP9, hD9⟩, hS.F ht⟩) hS.2.2 dX2_fareTo_29
set_option maxHeartbeats 4000000 in
set_option maxRecDepth 100000 in
theorem c_X2_startOf (l : Launch) (E : vE) (h0 : Nat) (g1 : Nat) (g2 : Nat) (g3 : Nat) (g4 : Nat) (g5 : Nat) (g6 : Nat) (g7 : Nat) (g8 : Nat) (on : Nat) (d1 : Nat → Int32) (d4 : Nat → Int32) (d5 : Nat → Int32) (d8 : Nat → Int32) (dd : Nat) (pt : Int32) (da : Int32) (sz : Nat) (hdd : dd < 7) (hd1 : ∀ k, k < 7 → inR (d1 k) 0 9 = true) : Met l yX2_startOf wsX2_startOf ({ frames := 2, cells := 0, slots := 0, locals := 43 }) (pcW E [.ref h0, .int (nI dd), .int pt, .int da] sz [(h0, .inr (2, [.ref g1, .ref g2, .ref g3, .ref g4, .ref g5, .int (nI on), .ref g6, .ref g7, .ref g8])), (g1, .inl (E.2.1 0, 7, .inl d1)), (g4, .inl (E.2.1 0, 7, .inl d4)), (g5, .inl (E.2.1 0, 7, .inl d5)), (g8, .inl (E.2.1 0, 100, .inl d8))]) (va_Qi (fun (r : Int32) (_ : Unit) => True) (fun (_ : Unit) (t : State) => wB E (va_A [(h0, .inr (2, [.ref g1, .ref g2, .ref g3, .ref g4, .ref g5, .int (nI on), .ref g6, .ref g7, .ref g8])), (g1, .inl (E.2.1 0, 7, .inl d1)), (g4, .inl (E.2.1 0, 7, .inl d4)), (g5, .inl (E.2.1 0, 7, .inl d5)), (g8, .inl (E.2.1 0, 100, .inl d8))] sz) [(h0, .inr (2, [.ref g1, .ref g2, .ref g3, .ref g4, .ref g5, .int (nI on), .ref g6, .ref g7, .ref g8])), (g1, .inl (E.2.1 0, 7, .inl d1)), (g4, .inl (E.2.1 0, 7, .inl d4)), (g5, .inl (E.2.1 0, 7, .inl d5)), (g8, .inl (E.2.1 0, 100, .inl d8))] t) (va_A [(h0, .inr (2, [.ref g1, .ref g2, .ref g3, .ref g4, .ref g5, .int (nI on), .ref g6, .ref g7, .ref g8])), (g1, .inl (E.2.1 0, 7, .inl d1)), (g4, .inl (E.2.1 0, 7, .inl d4)), (g5, .inl (E.2.1 0, 7, .inl d5)), (g8, .inl (E.2.1 0, 100, .inl d8))] sz)) 0 0 (va_A [(h0, .inr (2, [.ref g1, .ref g2, .ref g3, .ref g4, .ref g5, .int (nI on), .ref g6, .ref g7, .ref g8])), (g1, .inl (E.2.1 0, 7, .inl d1)), (g4, .inl (E.2.1 0, 7, .inl d4)), (g5, .inl (E.2.1 0, 7, .inl d5)), (g8, .inl (E.2.1 0, 100, .inl d8))] sz) := by
  refine Met.ofW (cc := cX2_startOf) (maxL := 6) (ret := (some .int)) (by decide) rfl ?_
  intro p e s m args below meth c s₁ B hml hv
  obtain ⟨rfl, hsz, hP, hkn, hD0, hst⟩ := hv
  have hx := B.exec
  have hb := B.bytes
  have hr := B.returns
  have hts := atoms_spec (ws := wsX2_startOf) B.pre
  have hown : s.vm.findClass RX2 = some m.cls := findClass_of_methodNamed B.named
  have hlocks := B.notSynchronized
  subst hsz
  have hD := hD0.self (sz := s.heap.size)
  have hK := hkn.1
  have hAO := hkn.2.2.1
  generalize hAe : va_A [(h0, .inr (2, [.ref g1, .ref g2, .ref g3, .ref g4, .ref g5, .int (nI on), .ref g6, .ref g7, .ref g8])), (g1, .inl (E.2.1 0, 7, .inl d1)), (g4, .inl (E.2.1 0, 7, .inl d4)), (g5, .inl (E.2.1 0, 7, .inl d5)), (g8, .inl (E.2.1 0, 100, .inl d8))] s.heap.size = A at hD hst ⊢
  have hA : ∀ q : Nat, s.heap.size ≤ q → A q := fun q h => by rw [← hAe]; exact Or.inr h
  have hS : va_S A s.heap s.heap [] := va_S.rf
  have hP : va_P E.1 vwCl [(h0, .inr (2, [.ref g1, .ref g2, .ref g3, .ref g4, .ref g5, .int (nI on), .ref g6, .ref g7, .ref g8])), (g1, .inl (E.2.1 0, 7, .inl d1)), (g4, .inl (E.2.1 0, 7, .inl d4)), (g5, .inl (E.2.1 0, 7, .inl d5)), (g8, .inl (E.2.1 0, 100, .inl d8))] s.heap := hP
  have hl := lv_entry ([.ref h0, .int (nI dd), .int pt, .int da]) (n := 6) (Nat.le_of_ble_eq_true rfl)
  rw [lg_entry_eq]
  generalize (lg_sl ([.ref h0, .int (nI dd), .int pt, .int da]) ++ List.replicate (6 - (lg_sl ([.ref h0, .int (nI dd), .int pt, .int da])).length) Slot.unset).toArray = ls at hl ⊢
  have hl : lv_has ls 6 [(0, .ref h0), (1, .int (nI dd)), (2, .int pt), (3, .int da)] := hl
  have fl9 := hts (.fieldLink RX2 9 "BoatsHome$Offers" "from" "[I") (by first | exact List.mem_of_getElem? (i := 1) rfl | decide +kernel)
  have fl21 := hts (.fieldLink RX2 21 "BoatsHome$Offers" "first" "[I") (by first | exact List.mem_of_getElem? (i := 2) rfl | decide +kernel)
  have fl24 := hts (.fieldLink RX2 24 "BoatsHome$Offers" "last" "[I") (by first | exact List.mem_of_getElem? (i := 7) rfl | decide +kernel)
  have inX2 : ∀ w ∈ u_ws RX2 TX2 9, w ∈ wsX2_startOf := by first | exact fun w h9 => (List.mem_cons_of_mem _ (List.mem_append_right _ h9)) | decide +kernel
  refine lv_aload_n hx hb dX2_startOf_0 rfl (lv_at hl 0 rfl) ?_
  refine lv_iload_n hx hb dX2_startOf_1 rfl (lv_at hl 1 rfl) ?_
  refine lv_iload_n hx hb dX2_startOf_2 rfl (lv_at hl 2 rfl) ?_
  have hPc := hP.sub (ws' := [(h0, .inr (2, [.ref g1, .ref g2, .ref g3, .ref g4, .ref g5, .int (nI on), .ref g6, .ref g7, .ref g8])), (g1, .inl (E.2.1 0, 7, .inl d1)), (g8, .inl (E.2.1 0, 100, .inl d8))]) [0, 1, 4] rfl
  have hDc := hD.sub (ws' := [(h0, .inr (2, [.ref g1, .ref g2, .ref g3, .ref g4, .ref g5, .int (nI on), .ref g6, .ref g7, .ref g8])), (g1, .inl (E.2.1 0, 7, .inl d1)), (g8, .inl (E.2.1 0, 100, .inl d8))]) [0, 1, 4] (by decide) rfl
  have hFc := va_free (wc := [(h0, .inr (2, [.ref g1, .ref g2, .ref g3, .ref g4, .ref g5, .int (nI on), .ref g6, .ref g7, .ref g8])), (g1, .inl (E.2.1 0, 7, .inl d1)), (g8, .inl (E.2.1 0, 100, .inl d8))]) hD hS hA [0, 1, 4] rfl
  refine va_calli (va_runV (As := [.int (nI dd), .int pt]) (rest := []) ⟨hx, hb, hml, hown, hts⟩ (c_X2_fareTo l E h0 g1 g2 g3 g4 g5 g6 g7 g8 on d1 d8 dd pt s.heap.size hdd hd1) (cwV 2 hts gX2_startOf_X2_fareTo rfl rfl rfl hdV_X2_fareTo ⟨Nat.le_of_ble_eq_true rfl, Nat.le_of_ble_eq_true rfl⟩) ⟨pcW_blind, va_recv hK hPc (ci := 2) (q0 := 0) rfl rfl, (pcW_pre hPc hkn hDc hst hS hFc)⟩ rfl rfl hl.1 rfl (lv_room (Nat.le_of_ble_eq_true rfl)) dX2_startOf_3 ⟨Nat.le_of_ble_eq_true rfl, Nat.le_of_ble_eq_true rfl⟩) hS (fun q _ h => hFc q h) hFc (fun r_1 u t H1 locs ht hvm hw_2 hB hz1 hk1 hS => ?_)
  obtain ⟨hP1, hD1⟩ := hB
  rw [ht] at hP1
  try dsimp only at hw_2
  obtain ⟨hP, hD⟩ := va_join (wr := [(g4, .inl (E.2.1 0, 7, .inl d4)), (g5, .inl (E.2.1 0, 7, .inl d5))]) (w1 := [(h0, .inr (2, [.ref g1, .ref g2, .ref g3, .ref g4, .ref g5, .int (nI on), .ref g6, .ref g7, .ref g8])), (g1, .inl (E.2.1 0, 7, .inl d1)), (g8, .inl (E.2.1 0, 100, .inl d8))]) hP hD [0, 1, 4] [2, 3] rfl rfl (by decide) (by decide) hk1 hFc hP1 hD1
  generalize H1 = H at hP hS ⊢
  have hP : va_P E.1 vwCl [(g4, .inl (E.2.1 0, 7, .inl d4)), (g5, .inl (E.2.1 0, 7, .inl d5)), (h0, .inr (2, [.ref g1, .ref g2, .ref g3, .ref g4, .ref g5, .int (nI on), .ref g6, .ref g7, .ref g8])), (g1, .inl (E.2.1 0, 7, .inl d1)), (g8, .inl (E.2.1 0, 100, .inl d8))] H := hP
  have hD : va_D A [(g4, .inl (E.2.1 0, 7, .inl d4)), (g5, .inl (E.2.1 0, 7, .inl d5)), (h0, .inr (2, [.ref g1, .ref g2, .ref g3, .ref g4, .ref g5, .int (nI on), .ref g6, .ref g7, .ref g8])), (g1, .inl (E.2.1 0, 7, .inl d1)), (g8, .inl (E.2.1 0, 100, .inl d8))] := hD
  refine lv_iconst (v := (-1)) hx hb dX2_startOf_6 (by decide) ?_
  refine lv_icmp_ne (tgt := 12) hx hb dX2_startOf_7 (by decide) (fun c_3 => ?_) (fun c_3 => ?_)
  · refine lv_iload_n hx hb dX2_startOf_12 rfl (lv_at hl 2 rfl) ?_
    refine lv_aload_n hx hb dX2_startOf_13 rfl (lv_at hl 0 rfl) ?_
    refine va_get (D := E.1) (ci := 2) (v := .ref g1) (C := RX2) (T := TX2) (N := 9) hx hb hts inX2 hown hK hP 2 rfl rfl 0 (by decide) fl9 (fun _ h9 => h9) rfl dX2_startOf_14 ?_
    refine lv_iload_n hx hb dX2_startOf_17 rfl (lv_at hl 1 rfl) ?_
    have hi_4 : vp_in (nI dd) 7 := vp_in_nI hdd (by decide)
    refine va_iald hx hb hK hP 3 0 rfl rfl hi_4 dX2_startOf_18 ?_
    refine lv_topi (fun x_5 ex_5 => ?_)
    refine lv_icmp_ne (tgt := 26) hx hb dX2_startOf_19 (by decide) (fun c_6 => ?_) (fun c_6 => ?_)
    · refine lv_iload_n hx hb dX2_startOf_26 rfl (lv_at hl 3 rfl) ?_
      refine lv_iconst (v := 1) hx hb dX2_startOf_27 (by decide) ?_
      refine lv_iadd hx hb dX2_startOf_28 ?_
      refine lv_topi (fun x_7 ex_7 => ?_)
      refine lv_istore (lv' := [(4, .int x_7), (0, .ref h0), (1, .int (nI dd)), (2, .int pt), (3, .int da)]) hx hb dX2_startOf_29 hl (by decide) rfl (fun ls hl => ?_)
      refine lv_iload hx hb dX2_startOf_31 (lv_at hl 0 rfl) ?_
      refine lv_aload_n hx hb dX2_startOf_33 rfl (lv_at hl 1 rfl) ?_
      refine va_get (D := E.1) (ci := 2) (v := .ref g4) (C := RX2) (T := TX2) (N := 9) hx hb hts inX2 hown hK hP 2 rfl rfl 3 (by decide) fl21 (fun _ h9 => h9) rfl dX2_startOf_34 ?_
      refine lv_iload_n hx hb dX2_startOf_37 rfl (lv_at hl 2 rfl) ?_
      refine va_iald hx hb hK hP 0 0 rfl rfl hi_4 dX2_startOf_38 ?_
      refine lv_topi (fun x_8 ex_8 => ?_)
      refine va_mmax hx hb (by rw [hml]; exact hl.1.symm) hown (hts (.methodLink RX2 54 Lib.Math.max.name) (by first | exact List.mem_of_getElem? (i := 3) rfl | decide +kernel)) (hts (.static Lib.Math.max.name) (by first | exact List.mem_of_getElem? (i := 4) rfl | decide +kernel)) (hts (.initialized "java/lang/Math") (by first | exact List.mem_of_getElem? (i := 5) rfl | decide +kernel)) (hts (.code Lib.Math.max.name Lib.Math.max.code 2 (some .int)) (by first | exact List.mem_of_getElem? (i := 6) rfl | decide +kernel)) (Nat.le_of_ble_eq_true rfl) (Nat.le_of_ble_eq_true rfl) (Nat.le_of_ble_eq_true rfl) (Nat.le_of_ble_eq_true rfl) dX2_startOf_39 ?_
      refine lv_topi (fun x_9 ex_9 => ?_)
      refine lv_istore (lv' := [(5, .int x_9), (4, .int x_7), (0, .ref h0), (1, .int (nI dd)), (2, .int pt), (3, .int da)]) hx hb dX2_startOf_42 hl (by decide) rfl (fun ls hl => ?_)
      refine lv_iload hx hb dX2_startOf_44 (lv_at hl 0 rfl) ?_
      refine lv_aload_n hx hb dX2_startOf_46 rfl (lv_at hl 2 rfl) ?_
      refine va_get (D := E.1) (ci := 2) (v := .ref g5) (C := RX2) (T := TX2) (N := 9) hx hb hts inX2 hown hK hP 2 rfl rfl 4 (by decide) fl24 (fun _ h9 => h9) rfl dX2_startOf_47 ?_
      refine lv_iload_n hx hb dX2_startOf_50 rfl (lv_at hl 3 rfl) ?_
      refine va_iald hx hb hK hP 1 0 rfl rfl hi_4 dX2_startOf_51 ?_
      refine lv_topi (fun x_10 ex_10 => ?_)
      refine lv_icmp_gt (tgt := 60) hx hb dX2_startOf_52 (by decide) (fun c_11 => ?_) (fun c_11 => ?_)
      · refine lv_iconst (v := (-1)) hx hb dX2_startOf_60 (by decide) ?_
        have hP9 := hP.sub (ws' := [(h0, .inr (2, [.ref g1, .ref g2, .ref g3, .ref g4, .ref g5, .int (nI on), .ref g6, .ref g7, .ref g8])), (g1, .inl (E.2.1 0, 7, .inl d1)), (g4, .inl (E.2.1 0, 7, .inl d4)), (g5, .inl (E.2.1 0, 7, .inl d5)), (g8, .inl (E.2.1 0, 100, .inl d8))]) [2, 3, 0, 1, 4] rfl
        have hD9 := hD.sub (ws' := [(h0, .inr (2, [.ref g1, .ref g2, .ref g3, .ref g4, .ref g5, .int (nI on), .ref g6, .ref g7, .ref g8])), (g1, .inl (E.2.1 0, 7, .inl d1)), (g4, .inl (E.2.1 0, 7, .inl d4)), (g5, .inl (E.2.1 0, 7, .inl d5)), (g8, .inl (E.2.1 0, 100, .inl d8))]) [2, 3, 0, 1, 4] (by decide) rfl
        exact W.iret (v := (-1)) hx hb hr (fun t ht hW => ⟨⟨(-1), (), rfl, trivial, by rw [ht]; exact hP9, hD9⟩, hS.F ht⟩) hS.2.2 dX2_startOf_61
      · refine lv_iload hx hb dX2_startOf_55 (lv_at hl 0 rfl) ?_
        refine lv_goto (tgt := 61) hx hb dX2_startOf_57 (by decide) ?_
        have hP9 := hP.sub (ws' := [(h0, .inr (2, [.ref g1, .ref g2, .ref g3, .ref g4, .ref g5, .int (nI on), .ref g6, .ref g7, .ref g8])), (g1, .inl (E.2.1 0, 7, .inl d1)), (g4, .inl (E.2.1 0, 7, .inl d4)), (g5, .inl (E.2.1 0, 7, .inl d5)), (g8, .inl (E.2.1 0, 100, .inl d8))]) [2, 3, 0, 1, 4] rfl
        have hD9 := hD.sub (ws' := [(h0, .inr (2, [.ref g1, .ref g2, .ref g3, .ref g4, .ref g5, .int (nI on), .ref g6, .ref g7, .ref g8])), (g1, .inl (E.2.1 0, 7, .inl d1)), (g4, .inl (E.2.1 0, 7, .inl d4)), (g5, .inl (E.2.1 0, 7, .inl d5)), (g8, .inl (E.2.1 0, 100, .inl d8))]) [2, 3, 0, 1, 4] (by decide) rfl
        exact W.iret (v := x_9) hx hb hr (fun t ht hW => ⟨⟨x_9, (), rfl, trivial, by rw [ht]; exact hP9, hD9⟩, hS.F ht⟩) hS.2.2 dX2_startOf_61
    · refine lv_iload_n hx hb dX2_startOf_22 rfl (lv_at hl 3 rfl) ?_
      refine lv_goto (tgt := 29) hx hb dX2_startOf_23 (by decide) ?_
      refine lv_istore (lv' := [(4, .int da), (0, .ref h0), (1, .int (nI dd)), (2, .int pt), (3, .int da)]) hx hb dX2_startOf_29 hl (by decide) rfl (fun ls hl => ?_)
      refine lv_iload hx hb dX2_startOf_31 (lv_at hl 0 rfl) ?_
      refine lv_aload_n hx hb dX2_startOf_33 rfl (lv_at hl 1 rfl) ?_
      refine va_get (D := E.1) (ci := 2) (v := .ref g4) (C := RX2) (T := TX2) (N := 9) hx hb hts inX2 hown hK hP 2 rfl rfl 3 (by decide) fl21 (fun _ h9 => h9) rfl dX2_startOf_34 ?_
      refine lv_iload_n hx hb dX2_startOf_37 rfl (lv_at hl 2 rfl) ?_
      refine va_iald hx hb hK hP 0 0 rfl rfl hi_4 dX2_startOf_38 ?_
      refine lv_topi (fun x_12 ex_12 => ?_)
      refine va_mmax hx hb (by rw [hml]; exact hl.1.symm) hown (hts (.methodLink RX2 54 Lib.Math.max.name) (by first | exact List.mem_of_getElem? (i := 3) rfl | decide +kernel)) (hts (.static Lib.Math.max.name) (by first | exact List.mem_of_getElem? (i := 4) rfl | decide +kernel)) (hts (.initialized "java/lang/Math") (by first | exact List.mem_of_getElem? (i := 5) rfl | decide +kernel)) (hts (.code Lib.Math.max.name Lib.Math.max.code 2 (some .int)) (by first | exact List.mem_of_getElem? (i := 6) rfl | decide +kernel)) (Nat.le_of_ble_eq_true rfl) (Nat.le_of_ble_eq_true rfl) (Nat.le_of_ble_eq_true rfl) (Nat.le_of_ble_eq_true rfl) dX2_startOf_39 ?_
      refine lv_topi (fun x_13 ex_13 => ?_)
      refine lv_istore (lv' := [(5, .int x_13), (4, .int da), (0, .ref h0), (1, .int (nI dd)), (2, .int pt), (3, .int da)]) hx hb dX2_startOf_42 hl (by decide) rfl (fun ls hl => ?_)
      refine lv_iload hx hb dX2_startOf_44 (lv_at hl 0 rfl) ?_
      refine lv_aload_n hx hb dX2_startOf_46 rfl (lv_at hl 2 rfl) ?_
      refine va_get (D := E.1) (ci := 2) (v := .ref g5) (C := RX2) (T := TX2) (N := 9) hx hb hts inX2 hown hK hP 2 rfl rfl 4 (by decide) fl24 (fun _ h9 => h9) rfl dX2_startOf_47 ?_
      refine lv_iload_n hx hb dX2_startOf_50 rfl (lv_at hl 3 rfl) ?_
      refine va_iald hx hb hK hP 1 0 rfl rfl hi_4 dX2_startOf_51 ?_
      refine lv_topi (fun x_14 ex_14 => ?_)
      refine lv_icmp_gt (tgt := 60) hx hb dX2_startOf_52 (by decide) (fun c_15 => ?_) (fun c_15 => ?_)
      · refine lv_iconst (v := (-1)) hx hb dX2_startOf_60 (by decide) ?_
        have hP9 := hP.sub (ws' := [(h0, .inr (2, [.ref g1, .ref g2, .ref g3, .ref g4, .ref g5, .int (nI on), .ref g6, .ref g7, .ref g8])), (g1, .inl (E.2.1 0, 7, .inl d1)), (g4, .inl (E.2.1 0, 7, .inl d4)), (g5, .inl (E.2.1 0, 7, .inl d5)), (g8, .inl (E.2.1 0, 100, .inl d8))]) [2, 3, 0, 1, 4] rfl
        have hD9 := hD.sub (ws' := [(h0, .inr (2, [.ref g1, .ref g2, .ref g3, .ref g4, .ref g5, .int (nI on), .ref g6, .ref g7, .ref g8])), (g1, .inl (E.2.1 0, 7, .inl d1)), (g4, .inl (E.2.1 0, 7, .inl d4)), (g5, .inl (E.2.1 0, 7, .inl d5)), (g8, .inl (E.2.1 0, 100, .inl d8))]) [2, 3, 0, 1, 4] (by decide) rfl
        exact W.iret (v := (-1)) hx hb hr (fun t ht hW => ⟨⟨(-1), (), rfl, trivial, by rw [ht]; exact hP9, hD9⟩, hS.F ht⟩) hS.2.2 dX2_startOf_61
      · refine lv_iload hx hb dX2_startOf_55 (lv_at hl 0 rfl) ?_
        refine lv_goto (tgt := 61) hx hb dX2_startOf_57 (by decide) ?_
        have hP9 := hP.sub (ws' := [(h0, .inr (2, [.ref g1, .ref g2, .ref g3, .ref g4, .ref g5, .int (nI on), .ref g6, .ref g7, .ref g8])), (g1, .inl (E.2.1 0, 7, .inl d1)), (g4, .inl (E.2.1 0, 7, .inl d4)), (g5, .inl (E.2.1 0, 7, .inl d5)), (g8, .inl (E.2.1 0, 100, .inl d8))]) [2, 3, 0, 1, 4] rfl
        have hD9 := hD.sub (ws' := [(h0, .inr (2, [.ref g1, .ref g2, .ref g3, .ref g4, .ref g5, .int (nI on), .ref g6, .ref g7, .ref g8])), (g1, .inl (E.2.1 0, 7, .inl d1)), (g4, .inl (E.2.1 0, 7, .inl d4)), (g5, .inl (E.2.1 0, 7, .inl d5)), (g8, .inl (E.2.1 0, 100, .inl d8))]) [2, 3, 0, 1, 4] (by decide) rfl
        exact W.iret (v := x_13) hx hb hr (fun t ht hW => ⟨⟨x_13, (), rfl, trivial, by rw [ht]; exact hP9, hD9⟩, hS.F ht⟩) hS.2.2 dX2_startOf_61
  · refine lv_iconst (v := (-1)) hx hb dX2_startOf_10 (by decide) ?_
    have hP9 := hP.sub (ws' := [(h0, .inr (2, [.ref g1, .ref g2, .ref g3, .ref g4, .ref g5, .int (nI on), .ref g6, .ref g7, .ref g8])), (g1, .inl (E.2.1 0, 7, .inl d1)), (g4, .inl (E.2.1 0, 7, .inl d4)), (g5, .inl (E.2.1 0, 7, .inl d5)), (g8, .inl (E.2.1 0, 100, .inl d8))]) [2, 3, 0, 1, 4] rfl
    have hD9 := hD.sub (ws' := [(h0, .inr (2, [.ref g1, .ref g2, .ref g3, .ref g4, .ref g5, .int (nI on), .ref g6, .ref g7, .ref g8])), (g1, .inl (E.2.1 0, 7, .inl d1)), (g4, .inl (E.2.1 0, 7, .inl d4)), (g5, .inl (E.2.1 0, 7, .inl d5)), (g8, .inl (E.2.1 0, 100, .inl d8))]) [2, 3, 0, 1, 4] (by decide) rfl
    exact W.iret (v := (-1)) hx hb hr (fun t ht hW => ⟨⟨(-1), (), rfl, trivial, by rw [ht]; exact hP9, hD9⟩, hS.F ht⟩) hS.2.2 dX2_startOf_11
set_option maxHeartbeats 4000000 in
set_option maxRecDepth 100000 in
theorem c_X2_crewsTold (l : Launch) (E : vE) (h0 : Nat) (g1 : Nat) (g2 : Nat) (g3 : Nat) (g4 : Nat) (g5 : Nat) (g6 : Nat) (g7 : Nat) (g8 : Nat) (on : Nat) (d6 : Nat → Int32) (sz : Nat) : Met l yX2_crewsTold wsX2_crewsTold ({ frames := 0, cells := 0, slots := 0, locals := 0 }) (pcW E [.ref h0] sz [(h0, .inr (2, [.ref g1, .ref g2, .ref g3, .ref g4, .ref g5, .int (nI on), .ref g6, .ref g7, .ref g8])), (g6, .inl (E.2.1 0, 4, .inl d6))]) (va_Qi (fun (r : Int32) (_ : Unit) => True) (fun (_ : Unit) (t : State) => wB E (va_A [(h0, .inr (2, [.ref g1, .ref g2, .ref g3, .ref g4, .ref g5, .int (nI on), .ref g6, .ref g7, .ref g8])), (g6, .inl (E.2.1 0, 4, .inl d6))] sz) [(h0, .inr (2, [.ref g1, .ref g2, .ref g3, .ref g4, .ref g5, .int (nI on), .ref g6, .ref g7, .ref g8])), (g6, .inl (E.2.1 0, 4, .inl d6))] t) (va_A [(h0, .inr (2, [.ref g1, .ref g2, .ref g3, .ref g4, .ref g5, .int (nI on), .ref g6, .ref g7, .ref g8])), (g6, .inl (E.2.1 0, 4, .inl d6))] sz)) 0 0 (va_A [(h0, .inr (2, [.ref g1, .ref g2, .ref g3, .ref g4, .ref g5, .int (nI on), .ref g6, .ref g7, .ref g8])), (g6, .inl (E.2.1 0, 4, .inl d6))] sz) := by
  refine Met.ofW (cc := cX2_crewsTold) (maxL := 3) (ret := (some .int)) (by decide) rfl ?_
  intro p e s m args below meth c s₁ B hml hv
  obtain ⟨rfl, hsz, hP, hkn, hD0, hst⟩ := hv
  have hx := B.exec
  have hb := B.bytes
  have hr := B.returns
  have hts := atoms_spec (ws := wsX2_crewsTold) B.pre
  have hown : s.vm.findClass RX2 = some m.cls := findClass_of_methodNamed B.named
  have hlocks := B.notSynchronized
  subst hsz
  have hD := hD0.self (sz := s.heap.size)
  have hK := hkn.1
  have hAO := hkn.2.2.1
  generalize hAe : va_A [(h0, .inr (2, [.ref g1, .ref g2, .ref g3, .ref g4, .ref g5, .int (nI on), .ref g6, .ref g7, .ref g8])), (g6, .inl (E.2.1 0, 4, .inl d6))] s.heap.size = A at hD hst ⊢
  have hA : ∀ q : Nat, s.heap.size ≤ q → A q := fun q h => by rw [← hAe]; exact Or.inr h
  have hS : va_S A s.heap s.heap [] := va_S.rf
  have hP : va_P E.1 vwCl [(h0, .inr (2, [.ref g1, .ref g2, .ref g3, .ref g4, .ref g5, .int (nI on), .ref g6, .ref g7, .ref g8])), (g6, .inl (E.2.1 0, 4, .inl d6))] s.heap := hP
  have hl := lv_entry ([.ref h0]) (n := 3) (Nat.le_of_ble_eq_true rfl)
  rw [lg_entry_eq]
  generalize (lg_sl ([.ref h0]) ++ List.replicate (3 - (lg_sl ([.ref h0])).length) Slot.unset).toArray = ls at hl ⊢
  have hl : lv_has ls 3 [(0, .ref h0)] := hl
  have fl31 := hts (.fieldLink RX2 31 "BoatsHome$Offers" "crewPorts" "[I") (by first | exact List.mem_of_getElem? (i := 1) rfl | decide +kernel)
  have inX2 : ∀ w ∈ u_ws RX2 TX2 9, w ∈ wsX2_crewsTold := by first | exact fun w h9 => (List.mem_cons_of_mem _ (List.mem_append_right _ h9)) | decide +kernel
  refine lv_iconst (v := 0) hx hb dX2_crewsTold_0 (by decide) ?_
  refine lv_istore_n (lv' := [(1, .int 0), (0, .ref h0)]) hx hb dX2_crewsTold_1 rfl hl (by decide) rfl (fun ls hl => ?_)
  refine lv_iconst (v := 0) hx hb dX2_crewsTold_2 (by decide) ?_
  refine lv_istore_n (lv' := [(2, .int 0), (1, .int 0), (0, .ref h0)]) hx hb dX2_crewsTold_3 rfl hl (by decide) rfl (fun ls hl => ?_)
  refine lv_iload_n hx hb dX2_crewsTold_4 rfl (lv_at hl 0 rfl) ?_
  refine lv_iconst (v := 4) hx hb dX2_crewsTold_5 (by decide) ?_
  refine lv_icmp_ge (tgt := 33) hx hb dX2_crewsTold_6 (by decide) (fun c9 => absurd c9 (by decide)) (fun _ => ?_)
  refine lv_iload_n hx hb dX2_crewsTold_9 rfl (lv_at hl 1 rfl) ?_
  refine lv_aload_n hx hb dX2_crewsTold_10 rfl (lv_at hl 2 rfl) ?_
  refine va_get (D := E.1) (ci := 2) (v := .ref g6) (C := RX2) (T := TX2) (N := 9) hx hb hts inX2 hown hK hP 0 rfl rfl 6 (by decide) fl31 (fun _ h9 => h9) rfl dX2_crewsTold_11 ?_
  refine lv_iload_n hx hb dX2_crewsTold_14 rfl (lv_at hl 0 rfl) ?_
  refine va_iald hx hb hK hP 1 0 rfl rfl (show vp_in 0 4 from by unfold vp_in; decide) dX2_crewsTold_15 ?_
  refine lv_topi (fun x_1 ex_1 => ?_)
  refine lv_iconst (v := (-1)) hx hb dX2_crewsTold_16 (by decide) ?_
  refine lv_icmp_ne (tgt := 24) hx hb dX2_crewsTold_17 (by decide) (fun c_2 => ?_) (fun c_2 => ?_)
  · refine lv_iconst (v := 1) hx hb dX2_crewsTold_24 (by decide) ?_
    refine lv_iadd hx hb dX2_crewsTold_25 ?_
    refine lv_topi (fun x_3 ex_3 => ?_)
    obtain rfl : x_3 = 1 := ex_3.trans (by decide +kernel)
    refine lv_istore_n (lv' := [(1, .int 1), (2, .int 0), (0, .ref h0)]) hx hb dX2_crewsTold_26 rfl hl (by decide) rfl (fun ls hl => ?_)
    refine lv_iinc (v := 1) (lv' := [(2, .int 1), (1, .int 1), (0, .ref h0)]) hx hb dX2_crewsTold_27 hl (k := 1) rfl (by decide) (by decide) rfl (fun ls hl => ?_)
    refine lv_goto (tgt := 4) hx hb dX2_crewsTold_30 (by decide) ?_
    refine lv_iload_n hx hb dX2_crewsTold_4 rfl (lv_at hl 0 rfl) ?_
    refine lv_iconst (v := 4) hx hb dX2_crewsTold_5 (by decide) ?_
    refine lv_icmp_ge (tgt := 33) hx hb dX2_crewsTold_6 (by decide) (fun c9 => absurd c9 (by decide)) (fun _ => ?_)
    refine lv_iload_n hx hb dX2_crewsTold_9 rfl (lv_at hl 1 rfl) ?_
    refine lv_aload_n hx hb dX2_crewsTold_10 rfl (lv_at hl 2 rfl) ?_
    refine va_get (D := E.1) (ci := 2) (v := .ref g6) (C := RX2) (T := TX2) (N := 9) hx hb hts inX2 hown hK hP 0 rfl rfl 6 (by decide) fl31 (fun _ h9 => h9) rfl dX2_crewsTold_11 ?_
    refine lv_iload_n hx hb dX2_crewsTold_14 rfl (lv_at hl 0 rfl) ?_
    refine va_iald hx hb hK hP 1 0 rfl rfl (show vp_in 1 4 from by unfold vp_in; decide) dX2_crewsTold_15 ?_
    refine lv_topi (fun x_4 ex_4 => ?_)
    refine lv_iconst (v := (-1)) hx hb dX2_crewsTold_16 (by decide) ?_
    refine lv_icmp_ne (tgt := 24) hx hb dX2_crewsTold_17 (by decide) (fun c_5 => ?_) (fun c_5 => ?_)
    · refine lv_iconst (v := 1) hx hb dX2_crewsTold_24 (by decide) ?_
      refine lv_iadd hx hb dX2_crewsTold_25 ?_
      refine lv_topi (fun x_6 ex_6 => ?_)
      obtain rfl : x_6 = 2 := ex_6.trans (by decide +kernel)
      refine lv_istore_n (lv' := [(1, .int 2), (2, .int 1), (0, .ref h0)]) hx hb dX2_crewsTold_26 rfl hl (by decide) rfl (fun ls hl => ?_)
      refine lv_iinc (v := 2) (lv' := [(2, .int 2), (1, .int 2), (0, .ref h0)]) hx hb dX2_crewsTold_27 hl (k := 1) rfl (by decide) (by decide) rfl (fun ls hl => ?_)
      refine lv_goto (tgt := 4) hx hb dX2_crewsTold_30 (by decide) ?_
      refine lv_iload_n hx hb dX2_crewsTold_4 rfl (lv_at hl 0 rfl) ?_
      refine lv_iconst (v := 4) hx hb dX2_crewsTold_5 (by decide) ?_
      refine lv_icmp_ge (tgt := 33) hx hb dX2_crewsTold_6 (by decide) (fun c9 => absurd c9 (by decide)) (fun _ => ?_)
      refine lv_iload_n hx hb dX2_crewsTold_9 rfl (lv_at hl 1 rfl) ?_
      refine lv_aload_n hx hb dX2_crewsTold_10 rfl (lv_at hl 2 rfl) ?_
      refine va_get (D := E.1) (ci := 2) (v := .ref g6) (C := RX2) (T := TX2) (N := 9) hx hb hts inX2 hown hK hP 0 rfl rfl 6 (by decide) fl31 (fun _ h9 => h9) rfl dX2_crewsTold_11 ?_
      refine lv_iload_n hx hb dX2_crewsTold_14 rfl (lv_at hl 0 rfl) ?_
      refine va_iald hx hb hK hP 1 0 rfl rfl (show vp_in 2 4 from by unfold vp_in; decide) dX2_crewsTold_15 ?_
      refine lv_topi (fun x_7 ex_7 => ?_)
      refine lv_iconst (v := (-1)) hx hb dX2_crewsTold_16 (by decide) ?_
      refine lv_icmp_ne (tgt := 24) hx hb dX2_crewsTold_17 (by decide) (fun c_8 => ?_) (fun c_8 => ?_)
      · refine lv_iconst (v := 1) hx hb dX2_crewsTold_24 (by decide) ?_
        refine lv_iadd hx hb dX2_crewsTold_25 ?_
        refine lv_topi (fun x_9 ex_9 => ?_)
        obtain rfl : x_9 = 3 := ex_9.trans (by decide +kernel)
        refine lv_istore_n (lv' := [(1, .int 3), (2, .int 2), (0, .ref h0)]) hx hb dX2_crewsTold_26 rfl hl (by decide) rfl (fun ls hl => ?_)
        refine lv_iinc (v := 3) (lv' := [(2, .int 3), (1, .int 3), (0, .ref h0)]) hx hb dX2_crewsTold_27 hl (k := 1) rfl (by decide) (by decide) rfl (fun ls hl => ?_)
        refine lv_goto (tgt := 4) hx hb dX2_crewsTold_30 (by decide) ?_
        refine lv_iload_n hx hb dX2_crewsTold_4 rfl (lv_at hl 0 rfl) ?_
        refine lv_iconst (v := 4) hx hb dX2_crewsTold_5 (by decide) ?_
        refine lv_icmp_ge (tgt := 33) hx hb dX2_crewsTold_6 (by decide) (fun c9 => absurd c9 (by decide)) (fun _ => ?_)
        refine lv_iload_n hx hb dX2_crewsTold_9 rfl (lv_at hl 1 rfl) ?_
        refine lv_aload_n hx hb dX2_crewsTold_10 rfl (lv_at hl 2 rfl) ?_
        refine va_get (D := E.1) (ci := 2) (v := .ref g6) (C := RX2) (T := TX2) (N := 9) hx hb hts inX2 hown hK hP 0 rfl rfl 6 (by decide) fl31 (fun _ h9 => h9) rfl dX2_crewsTold_11 ?_
        refine lv_iload_n hx hb dX2_crewsTold_14 rfl (lv_at hl 0 rfl) ?_
        refine va_iald hx hb hK hP 1 0 rfl rfl (show vp_in 3 4 from by unfold vp_in; decide) dX2_crewsTold_15 ?_
        refine lv_topi (fun x_10 ex_10 => ?_)
        refine lv_iconst (v := (-1)) hx hb dX2_crewsTold_16 (by decide) ?_
        refine lv_icmp_ne (tgt := 24) hx hb dX2_crewsTold_17 (by decide) (fun c_11 => ?_) (fun c_11 => ?_)
        · refine lv_iconst (v := 1) hx hb dX2_crewsTold_24 (by decide) ?_
          refine lv_iadd hx hb dX2_crewsTold_25 ?_
          refine lv_topi (fun x_12 ex_12 => ?_)
          obtain rfl : x_12 = 4 := ex_12.trans (by decide +kernel)
          refine lv_istore_n (lv' := [(1, .int 4), (2, .int 3), (0, .ref h0)]) hx hb dX2_crewsTold_26 rfl hl (by decide) rfl (fun ls hl => ?_)
          refine lv_iinc (v := 4) (lv' := [(2, .int 4), (1, .int 4), (0, .ref h0)]) hx hb dX2_crewsTold_27 hl (k := 1) rfl (by decide) (by decide) rfl (fun ls hl => ?_)
          refine lv_goto (tgt := 4) hx hb dX2_crewsTold_30 (by decide) ?_
          refine lv_iload_n hx hb dX2_crewsTold_4 rfl (lv_at hl 0 rfl) ?_
          refine lv_iconst (v := 4) hx hb dX2_crewsTold_5 (by decide) ?_
          refine lv_icmp_ge (tgt := 33) hx hb dX2_crewsTold_6 (by decide) (fun _ => ?_) (fun c9 => absurd c9 (by decide))
          refine lv_iload_n hx hb dX2_crewsTold_33 rfl (lv_at hl 1 rfl) ?_
          have hP9 := hP.sub (ws' := [(h0, .inr (2, [.ref g1, .ref g2, .ref g3, .ref g4, .ref g5, .int (nI on), .ref g6, .ref g7, .ref g8])), (g6, .inl (E.2.1 0, 4, .inl d6))]) [0, 1] rfl
          have hD9 := hD.sub (ws' := [(h0, .inr (2, [.ref g1, .ref g2, .ref g3, .ref g4, .ref g5, .int (nI on), .ref g6, .ref g7, .ref g8])), (g6, .inl (E.2.1 0, 4, .inl d6))]) [0, 1] (by decide) rfl
          exact W.iret (v := 4) hx hb hr (fun t ht hW => ⟨⟨4, (), rfl, trivial, by rw [ht]; exact hP9, hD9⟩, hS.F ht⟩) hS.2.2 dX2_crewsTold_34
        · refine lv_iconst (v := 0) hx hb dX2_crewsTold_20 (by decide) ?_
          refine lv_goto (tgt := 25) hx hb dX2_crewsTold_21 (by decide) ?_
          refine lv_iadd hx hb dX2_crewsTold_25 ?_
          refine lv_topi (fun x_13 ex_13 => ?_)
          obtain rfl : x_13 = 3 := ex_13.trans (by decide +kernel)
          refine lv_istore_n (lv' := [(1, .int 3), (2, .int 3), (0, .ref h0)]) hx hb dX2_crewsTold_26 rfl hl (by decide) rfl (fun ls hl => ?_)
          refine lv_iinc (v := 4) (lv' := [(2, .int 4), (1, .int 3), (0, .ref h0)]) hx hb dX2_crewsTold_27 hl (k := 1) rfl (by decide) (by decide) rfl (fun ls hl => ?_)
          refine lv_goto (tgt := 4) hx hb dX2_crewsTold_30 (by decide) ?_
          refine lv_iload_n hx hb dX2_crewsTold_4 rfl (lv_at hl 0 rfl) ?_
          refine lv_iconst (v := 4) hx hb dX2_crewsTold_5 (by decide) ?_
          refine lv_icmp_ge (tgt := 33) hx hb dX2_crewsTold_6 (by decide) (fun _ => ?_) (fun c9 => absurd c9 (by decide))
          refine lv_iload_n hx hb dX2_crewsTold_33 rfl (lv_at hl 1 rfl) ?_
          have hP9 := hP.sub (ws' := [(h0, .inr (2, [.ref g1, .ref g2, .ref g3, .ref g4, .ref g5, .int (nI on), .ref g6, .ref g7, .ref g8])), (g6, .inl (E.2.1 0, 4, .inl d6))]) [0, 1] rfl
          have hD9 := hD.sub (ws' := [(h0, .inr (2, [.ref g1, .ref g2, .ref g3, .ref g4, .ref g5, .int (nI on), .ref g6, .ref g7, .ref g8])), (g6, .inl (E.2.1 0, 4, .inl d6))]) [0, 1] (by decide) rfl
          exact W.iret (v := 3) hx hb hr (fun t ht hW => ⟨⟨3, (), rfl, trivial, by rw [ht]; exact hP9, hD9⟩, hS.F ht⟩) hS.2.2 dX2_crewsTold_34
      · refine lv_iconst (v := 0) hx hb dX2_crewsTold_20 (by decide) ?_
        refine lv_goto (tgt := 25) hx hb dX2_crewsTold_21 (by decide) ?_
        refine lv_iadd hx hb dX2_crewsTold_25 ?_
        refine lv_topi (fun x_14 ex_14 => ?_)
        obtain rfl : x_14 = 2 := ex_14.trans (by decide +kernel)
        refine lv_istore_n (lv' := [(1, .int 2), (2, .int 2), (0, .ref h0)]) hx hb dX2_crewsTold_26 rfl hl (by decide) rfl (fun ls hl => ?_)
        refine lv_iinc (v := 3) (lv' := [(2, .int 3), (1, .int 2), (0, .ref h0)]) hx hb dX2_crewsTold_27 hl (k := 1) rfl (by decide) (by decide) rfl (fun ls hl => ?_)
        refine lv_goto (tgt := 4) hx hb dX2_crewsTold_30 (by decide) ?_
        refine lv_iload_n hx hb dX2_crewsTold_4 rfl (lv_at hl 0 rfl) ?_
        refine lv_iconst (v := 4) hx hb dX2_crewsTold_5 (by decide) ?_
        refine lv_icmp_ge (tgt := 33) hx hb dX2_crewsTold_6 (by decide) (fun c9 => absurd c9 (by decide)) (fun _ => ?_)
        refine lv_iload_n hx hb dX2_crewsTold_9 rfl (lv_at hl 1 rfl) ?_
        refine lv_aload_n hx hb dX2_crewsTold_10 rfl (lv_at hl 2 rfl) ?_
        refine va_get (D := E.1) (ci := 2) (v := .ref g6) (C := RX2) (T := TX2) (N := 9) hx hb hts inX2 hown hK hP 0 rfl rfl 6 (by decide) fl31 (fun _ h9 => h9) rfl dX2_crewsTold_11 ?_
        refine lv_iload_n hx hb dX2_crewsTold_14 rfl (lv_at hl 0 rfl) ?_
        refine va_iald hx hb hK hP 1 0 rfl rfl (show vp_in 3 4 from by unfold vp_in; decide) dX2_crewsTold_15 ?_
        refine lv_topi (fun x_15 ex_15 => ?_)
        refine lv_iconst (v := (-1)) hx hb dX2_crewsTold_16 (by decide) ?_
        refine lv_icmp_ne (tgt := 24) hx hb dX2_crewsTold_17 (by decide) (fun c_16 => ?_) (fun c_16 => ?_)
        · refine lv_iconst (v := 1) hx hb dX2_crewsTold_24 (by decide) ?_
          refine lv_iadd hx hb dX2_crewsTold_25 ?_
          refine lv_topi (fun x_17 ex_17 => ?_)
          obtain rfl : x_17 = 3 := ex_17.trans (by decide +kernel)
          refine lv_istore_n (lv' := [(1, .int 3), (2, .int 3), (0, .ref h0)]) hx hb dX2_crewsTold_26 rfl hl (by decide) rfl (fun ls hl => ?_)
          refine lv_iinc (v := 4) (lv' := [(2, .int 4), (1, .int 3), (0, .ref h0)]) hx hb dX2_crewsTold_27 hl (k := 1) rfl (by decide) (by decide) rfl (fun ls hl => ?_)
          refine lv_goto (tgt := 4) hx hb dX2_crewsTold_30 (by decide) ?_
          refine lv_iload_n hx hb dX2_crewsTold_4 rfl (lv_at hl 0 rfl) ?_
          refine lv_iconst (v := 4) hx hb dX2_crewsTold_5 (by decide) ?_
          refine lv_icmp_ge (tgt := 33) hx hb dX2_crewsTold_6 (by decide) (fun _ => ?_) (fun c9 => absurd c9 (by decide))
          refine lv_iload_n hx hb dX2_crewsTold_33 rfl (lv_at hl 1 rfl) ?_
          have hP9 := hP.sub (ws' := [(h0, .inr (2, [.ref g1, .ref g2, .ref g3, .ref g4, .ref g5, .int (nI on), .ref g6, .ref g7, .ref g8])), (g6, .inl (E.2.1 0, 4, .inl d6))]) [0, 1] rfl
          have hD9 := hD.sub (ws' := [(h0, .inr (2, [.ref g1, .ref g2, .ref g3, .ref g4, .ref g5, .int (nI on), .ref g6, .ref g7, .ref g8])), (g6, .inl (E.2.1 0, 4, .inl d6))]) [0, 1] (by decide) rfl
          exact W.iret (v := 3) hx hb hr (fun t ht hW => ⟨⟨3, (), rfl, trivial, by rw [ht]; exact hP9, hD9⟩, hS.F ht⟩) hS.2.2 dX2_crewsTold_34
        · refine lv_iconst (v := 0) hx hb dX2_crewsTold_20 (by decide) ?_
          refine lv_goto (tgt := 25) hx hb dX2_crewsTold_21 (by decide) ?_
          refine lv_iadd hx hb dX2_crewsTold_25 ?_
          refine lv_topi (fun x_18 ex_18 => ?_)
          obtain rfl : x_18 = 2 := ex_18.trans (by decide +kernel)
          refine lv_istore_n (lv' := [(1, .int 2), (2, .int 3), (0, .ref h0)]) hx hb dX2_crewsTold_26 rfl hl (by decide) rfl (fun ls hl => ?_)
          refine lv_iinc (v := 4) (lv' := [(2, .int 4), (1, .int 2), (0, .ref h0)]) hx hb dX2_crewsTold_27 hl (k := 1) rfl (by decide) (by decide) rfl (fun ls hl => ?_)
          refine lv_goto (tgt := 4) hx hb dX2_crewsTold_30 (by decide) ?_
          refine lv_iload_n hx hb dX2_crewsTold_4 rfl (lv_at hl 0 rfl) ?_
          refine lv_iconst (v := 4) hx hb dX2_crewsTold_5 (by decide) ?_
          refine lv_icmp_ge (tgt := 33) hx hb dX2_crewsTold_6 (by decide) (fun _ => ?_) (fun c9 => absurd c9 (by decide))
          refine lv_iload_n hx hb dX2_crewsTold_33 rfl (lv_at hl 1 rfl) ?_
          have hP9 := hP.sub (ws' := [(h0, .inr (2, [.ref g1, .ref g2, .ref g3, .ref g4, .ref g5, .int (nI on), .ref g6, .ref g7, .ref g8])), (g6, .inl (E.2.1 0, 4, .inl d6))]) [0, 1] rfl
          have hD9 := hD.sub (ws' := [(h0, .inr (2, [.ref g1, .ref g2, .ref g3, .ref g4, .ref g5, .int (nI on), .ref g6, .ref g7, .ref g8])), (g6, .inl (E.2.1 0, 4, .inl d6))]) [0, 1] (by decide) rfl
          exact W.iret (v := 2) hx hb hr (fun t ht hW => ⟨⟨2, (), rfl, trivial, by rw [ht]; exact hP9, hD9⟩, hS.F ht⟩) hS.2.2 dX2_crewsTold_34
    · refine lv_iconst (v := 0) hx hb dX2_crewsTold_20 (by decide) ?_
      refine lv_goto (tgt := 25) hx hb dX2_crewsTold_21 (by decide) ?_
      refine lv_iadd hx hb dX2_crewsTold_25 ?_
      refine lv_topi (fun x_19 ex_19 => ?_)
      obtain rfl : x_19 = 1 := ex_19.trans (by decide +kernel)
      refine lv_istore_n (lv' := [(1, .int 1), (2, .int 1), (0, .ref h0)]) hx hb dX2_crewsTold_26 rfl hl (by decide) rfl (fun ls hl => ?_)
      refine lv_iinc (v := 2) (lv' := [(2, .int 2), (1, .int 1), (0, .ref h0)]) hx hb dX2_crewsTold_27 hl (k := 1) rfl (by decide) (by decide) rfl (fun ls hl => ?_)
      refine lv_goto (tgt := 4) hx hb dX2_crewsTold_30 (by decide) ?_
      refine lv_iload_n hx hb dX2_crewsTold_4 rfl (lv_at hl 0 rfl) ?_
      refine lv_iconst (v := 4) hx hb dX2_crewsTold_5 (by decide) ?_
      refine lv_icmp_ge (tgt := 33) hx hb dX2_crewsTold_6 (by decide) (fun c9 => absurd c9 (by decide)) (fun _ => ?_)
      refine lv_iload_n hx hb dX2_crewsTold_9 rfl (lv_at hl 1 rfl) ?_
      refine lv_aload_n hx hb dX2_crewsTold_10 rfl (lv_at hl 2 rfl) ?_
      refine va_get (D := E.1) (ci := 2) (v := .ref g6) (C := RX2) (T := TX2) (N := 9) hx hb hts inX2 hown hK hP 0 rfl rfl 6 (by decide) fl31 (fun _ h9 => h9) rfl dX2_crewsTold_11 ?_
      refine lv_iload_n hx hb dX2_crewsTold_14 rfl (lv_at hl 0 rfl) ?_
      refine va_iald hx hb hK hP 1 0 rfl rfl (show vp_in 2 4 from by unfold vp_in; decide) dX2_crewsTold_15 ?_
      refine lv_topi (fun x_20 ex_20 => ?_)
      refine lv_iconst (v := (-1)) hx hb dX2_crewsTold_16 (by decide) ?_
      refine lv_icmp_ne (tgt := 24) hx hb dX2_crewsTold_17 (by decide) (fun c_21 => ?_) (fun c_21 => ?_)
      · refine lv_iconst (v := 1) hx hb dX2_crewsTold_24 (by decide) ?_
        refine lv_iadd hx hb dX2_crewsTold_25 ?_
        refine lv_topi (fun x_22 ex_22 => ?_)
        obtain rfl : x_22 = 2 := ex_22.trans (by decide +kernel)
        refine lv_istore_n (lv' := [(1, .int 2), (2, .int 2), (0, .ref h0)]) hx hb dX2_crewsTold_26 rfl hl (by decide) rfl (fun ls hl => ?_)
        refine lv_iinc (v := 3) (lv' := [(2, .int 3), (1, .int 2), (0, .ref h0)]) hx hb dX2_crewsTold_27 hl (k := 1) rfl (by decide) (by decide) rfl (fun ls hl => ?_)
        refine lv_goto (tgt := 4) hx hb dX2_crewsTold_30 (by decide) ?_
        refine lv_iload_n hx hb dX2_crewsTold_4 rfl (lv_at hl 0 rfl) ?_
        refine lv_iconst (v := 4) hx hb dX2_crewsTold_5 (by decide) ?_
        refine lv_icmp_ge (tgt := 33) hx hb dX2_crewsTold_6 (by decide) (fun c9 => absurd c9 (by decide)) (fun _ => ?_)
        refine lv_iload_n hx hb dX2_crewsTold_9 rfl (lv_at hl 1 rfl) ?_
        refine lv_aload_n hx hb dX2_crewsTold_10 rfl (lv_at hl 2 rfl) ?_
        refine va_get (D := E.1) (ci := 2) (v := .ref g6) (C := RX2) (T := TX2) (N := 9) hx hb hts inX2 hown hK hP 0 rfl rfl 6 (by decide) fl31 (fun _ h9 => h9) rfl dX2_crewsTold_11 ?_
        refine lv_iload_n hx hb dX2_crewsTold_14 rfl (lv_at hl 0 rfl) ?_
        refine va_iald hx hb hK hP 1 0 rfl rfl (show vp_in 3 4 from by unfold vp_in; decide) dX2_crewsTold_15 ?_
        refine lv_topi (fun x_23 ex_23 => ?_)
        refine lv_iconst (v := (-1)) hx hb dX2_crewsTold_16 (by decide) ?_
        refine lv_icmp_ne (tgt := 24) hx hb dX2_crewsTold_17 (by decide) (fun c_24 => ?_) (fun c_24 => ?_)
        · refine lv_iconst (v := 1) hx hb dX2_crewsTold_24 (by decide) ?_
          refine lv_iadd hx hb dX2_crewsTold_25 ?_
          refine lv_topi (fun x_25 ex_25 => ?_)
          obtain rfl : x_25 = 3 := ex_25.trans (by decide +kernel)
          refine lv_istore_n (lv' := [(1, .int 3), (2, .int 3), (0, .ref h0)]) hx hb dX2_crewsTold_26 rfl hl (by decide) rfl (fun ls hl => ?_)
          refine lv_iinc (v := 4) (lv' := [(2, .int 4), (1, .int 3), (0, .ref h0)]) hx hb dX2_crewsTold_27 hl (k := 1) rfl (by decide) (by decide) rfl (fun ls hl => ?_)
          refine lv_goto (tgt := 4) hx hb dX2_crewsTold_30 (by decide) ?_
          refine lv_iload_n hx hb dX2_crewsTold_4 rfl (lv_at hl 0 rfl) ?_
          refine lv_iconst (v := 4) hx hb dX2_crewsTold_5 (by decide) ?_
          refine lv_icmp_ge (tgt := 33) hx hb dX2_crewsTold_6 (by decide) (fun _ => ?_) (fun c9 => absurd c9 (by decide))
          refine lv_iload_n hx hb dX2_crewsTold_33 rfl (lv_at hl 1 rfl) ?_
          have hP9 := hP.sub (ws' := [(h0, .inr (2, [.ref g1, .ref g2, .ref g3, .ref g4, .ref g5, .int (nI on), .ref g6, .ref g7, .ref g8])), (g6, .inl (E.2.1 0, 4, .inl d6))]) [0, 1] rfl
          have hD9 := hD.sub (ws' := [(h0, .inr (2, [.ref g1, .ref g2, .ref g3, .ref g4, .ref g5, .int (nI on), .ref g6, .ref g7, .ref g8])), (g6, .inl (E.2.1 0, 4, .inl d6))]) [0, 1] (by decide) rfl
          exact W.iret (v := 3) hx hb hr (fun t ht hW => ⟨⟨3, (), rfl, trivial, by rw [ht]; exact hP9, hD9⟩, hS.F ht⟩) hS.2.2 dX2_crewsTold_34
        · refine lv_iconst (v := 0) hx hb dX2_crewsTold_20 (by decide) ?_
          refine lv_goto (tgt := 25) hx hb dX2_crewsTold_21 (by decide) ?_
          refine lv_iadd hx hb dX2_crewsTold_25 ?_
          refine lv_topi (fun x_26 ex_26 => ?_)
          obtain rfl : x_26 = 2 := ex_26.trans (by decide +kernel)
          refine lv_istore_n (lv' := [(1, .int 2), (2, .int 3), (0, .ref h0)]) hx hb dX2_crewsTold_26 rfl hl (by decide) rfl (fun ls hl => ?_)
          refine lv_iinc (v := 4) (lv' := [(2, .int 4), (1, .int 2), (0, .ref h0)]) hx hb dX2_crewsTold_27 hl (k := 1) rfl (by decide) (by decide) rfl (fun ls hl => ?_)
          refine lv_goto (tgt := 4) hx hb dX2_crewsTold_30 (by decide) ?_
          refine lv_iload_n hx hb dX2_crewsTold_4 rfl (lv_at hl 0 rfl) ?_
          refine lv_iconst (v := 4) hx hb dX2_crewsTold_5 (by decide) ?_
          refine lv_icmp_ge (tgt := 33) hx hb dX2_crewsTold_6 (by decide) (fun _ => ?_) (fun c9 => absurd c9 (by decide))
          refine lv_iload_n hx hb dX2_crewsTold_33 rfl (lv_at hl 1 rfl) ?_
          have hP9 := hP.sub (ws' := [(h0, .inr (2, [.ref g1, .ref g2, .ref g3, .ref g4, .ref g5, .int (nI on), .ref g6, .ref g7, .ref g8])), (g6, .inl (E.2.1 0, 4, .inl d6))]) [0, 1] rfl
          have hD9 := hD.sub (ws' := [(h0, .inr (2, [.ref g1, .ref g2, .ref g3, .ref g4, .ref g5, .int (nI on), .ref g6, .ref g7, .ref g8])), (g6, .inl (E.2.1 0, 4, .inl d6))]) [0, 1] (by decide) rfl
          exact W.iret (v := 2) hx hb hr (fun t ht hW => ⟨⟨2, (), rfl, trivial, by rw [ht]; exact hP9, hD9⟩, hS.F ht⟩) hS.2.2 dX2_crewsTold_34
      · refine lv_iconst (v := 0) hx hb dX2_crewsTold_20 (by decide) ?_
        refine lv_goto (tgt := 25) hx hb dX2_crewsTold_21 (by decide) ?_
        refine lv_iadd hx hb dX2_crewsTold_25 ?_
        refine lv_topi (fun x_27 ex_27 => ?_)
        obtain rfl : x_27 = 1 := ex_27.trans (by decide +kernel)
        refine lv_istore_n (lv' := [(1, .int 1), (2, .int 2), (0, .ref h0)]) hx hb dX2_crewsTold_26 rfl hl (by decide) rfl (fun ls hl => ?_)
        refine lv_iinc (v := 3) (lv' := [(2, .int 3), (1, .int 1), (0, .ref h0)]) hx hb dX2_crewsTold_27 hl (k := 1) rfl (by decide) (by decide) rfl (fun ls hl => ?_)
        refine lv_goto (tgt := 4) hx hb dX2_crewsTold_30 (by decide) ?_
        refine lv_iload_n hx hb dX2_crewsTold_4 rfl (lv_at hl 0 rfl) ?_
        refine lv_iconst (v := 4) hx hb dX2_crewsTold_5 (by decide) ?_
        refine lv_icmp_ge (tgt := 33) hx hb dX2_crewsTold_6 (by decide) (fun c9 => absurd c9 (by decide)) (fun _ => ?_)
        refine lv_iload_n hx hb dX2_crewsTold_9 rfl (lv_at hl 1 rfl) ?_
        refine lv_aload_n hx hb dX2_crewsTold_10 rfl (lv_at hl 2 rfl) ?_
        refine va_get (D := E.1) (ci := 2) (v := .ref g6) (C := RX2) (T := TX2) (N := 9) hx hb hts inX2 hown hK hP 0 rfl rfl 6 (by decide) fl31 (fun _ h9 => h9) rfl dX2_crewsTold_11 ?_
        refine lv_iload_n hx hb dX2_crewsTold_14 rfl (lv_at hl 0 rfl) ?_
        refine va_iald hx hb hK hP 1 0 rfl rfl (show vp_in 3 4 from by unfold vp_in; decide) dX2_crewsTold_15 ?_
        refine lv_topi (fun x_28 ex_28 => ?_)
        refine lv_iconst (v := (-1)) hx hb dX2_crewsTold_16 (by decide) ?_
        refine lv_icmp_ne (tgt := 24) hx hb dX2_crewsTold_17 (by decide) (fun c_29 => ?_) (fun c_29 => ?_)
        · refine lv_iconst (v := 1) hx hb dX2_crewsTold_24 (by decide) ?_
          refine lv_iadd hx hb dX2_crewsTold_25 ?_
          refine lv_topi (fun x_30 ex_30 => ?_)
          obtain rfl : x_30 = 2 := ex_30.trans (by decide +kernel)
          refine lv_istore_n (lv' := [(1, .int 2), (2, .int 3), (0, .ref h0)]) hx hb dX2_crewsTold_26 rfl hl (by decide) rfl (fun ls hl => ?_)
          refine lv_iinc (v := 4) (lv' := [(2, .int 4), (1, .int 2), (0, .ref h0)]) hx hb dX2_crewsTold_27 hl (k := 1) rfl (by decide) (by decide) rfl (fun ls hl => ?_)
          refine lv_goto (tgt := 4) hx hb dX2_crewsTold_30 (by decide) ?_
          refine lv_iload_n hx hb dX2_crewsTold_4 rfl (lv_at hl 0 rfl) ?_
          refine lv_iconst (v := 4) hx hb dX2_crewsTold_5 (by decide) ?_
          refine lv_icmp_ge (tgt := 33) hx hb dX2_crewsTold_6 (by decide) (fun _ => ?_) (fun c9 => absurd c9 (by decide))
          refine lv_iload_n hx hb dX2_crewsTold_33 rfl (lv_at hl 1 rfl) ?_
          have hP9 := hP.sub (ws' := [(h0, .inr (2, [.ref g1, .ref g2, .ref g3, .ref g4, .ref g5, .int (nI on), .ref g6, .ref g7, .ref g8])), (g6, .inl (E.2.1 0, 4, .inl d6))]) [0, 1] rfl
          have hD9 := hD.sub (ws' := [(h0, .inr (2, [.ref g1, .ref g2, .ref g3, .ref g4, .ref g5, .int (nI on), .ref g6, .ref g7, .ref g8])), (g6, .inl (E.2.1 0, 4, .inl d6))]) [0, 1] (by decide) rfl
          exact W.iret (v := 2) hx hb hr (fun t ht hW => ⟨⟨2, (), rfl, trivial, by rw [ht]; exact hP9, hD9⟩, hS.F ht⟩) hS.2.2 dX2_crewsTold_34
        · refine lv_iconst (v := 0) hx hb dX2_crewsTold_20 (by decide) ?_
          refine lv_goto (tgt := 25) hx hb dX2_crewsTold_21 (by decide) ?_
          refine lv_iadd hx hb dX2_crewsTold_25 ?_
          refine lv_topi (fun x_31 ex_31 => ?_)
          obtain rfl : x_31 = 1 := ex_31.trans (by decide +kernel)
          refine lv_istore_n (lv' := [(1, .int 1), (2, .int 3), (0, .ref h0)]) hx hb dX2_crewsTold_26 rfl hl (by decide) rfl (fun ls hl => ?_)
          refine lv_iinc (v := 4) (lv' := [(2, .int 4), (1, .int 1), (0, .ref h0)]) hx hb dX2_crewsTold_27 hl (k := 1) rfl (by decide) (by decide) rfl (fun ls hl => ?_)
          refine lv_goto (tgt := 4) hx hb dX2_crewsTold_30 (by decide) ?_
          refine lv_iload_n hx hb dX2_crewsTold_4 rfl (lv_at hl 0 rfl) ?_
          refine lv_iconst (v := 4) hx hb dX2_crewsTold_5 (by decide) ?_
          refine lv_icmp_ge (tgt := 33) hx hb dX2_crewsTold_6 (by decide) (fun _ => ?_) (fun c9 => absurd c9 (by decide))
          refine lv_iload_n hx hb dX2_crewsTold_33 rfl (lv_at hl 1 rfl) ?_
          have hP9 := hP.sub (ws' := [(h0, .inr (2, [.ref g1, .ref g2, .ref g3, .ref g4, .ref g5, .int (nI on), .ref g6, .ref g7, .ref g8])), (g6, .inl (E.2.1 0, 4, .inl d6))]) [0, 1] rfl
          have hD9 := hD.sub (ws' := [(h0, .inr (2, [.ref g1, .ref g2, .ref g3, .ref g4, .ref g5, .int (nI on), .ref g6, .ref g7, .ref g8])), (g6, .inl (E.2.1 0, 4, .inl d6))]) [0, 1] (by decide) rfl
          exact W.iret (v := 1) hx hb hr (fun t ht hW => ⟨⟨1, (), rfl, trivial, by rw [ht]; exact hP9, hD9⟩, hS.F ht⟩) hS.2.2 dX2_crewsTold_34
  · refine lv_iconst (v := 0) hx hb dX2_crewsTold_20 (by decide) ?_
    refine lv_goto (tgt := 25) hx hb dX2_crewsTold_21 (by decide) ?_
    refine lv_iadd hx hb dX2_crewsTold_25 ?_
    refine lv_topi (fun x_32 ex_32 => ?_)
    obtain rfl : x_32 = 0 := ex_32.trans (by decide +kernel)
    refine lv_istore_n (lv' := [(1, .int 0), (2, .int 0), (0, .ref h0)]) hx hb dX2_crewsTold_26 rfl hl (by decide) rfl (fun ls hl => ?_)
    refine lv_iinc (v := 1) (lv' := [(2, .int 1), (1, .int 0), (0, .ref h0)]) hx hb dX2_crewsTold_27 hl (k := 1) rfl (by decide) (by decide) rfl (fun ls hl => ?_)
    refine lv_goto (tgt := 4) hx hb dX2_crewsTold_30 (by decide) ?_
    refine lv_iload_n hx hb dX2_crewsTold_4 rfl (lv_at hl 0 rfl) ?_
    refine lv_iconst (v := 4) hx hb dX2_crewsTold_5 (by decide) ?_
    refine lv_icmp_ge (tgt := 33) hx hb dX2_crewsTold_6 (by decide) (fun c9 => absurd c9 (by decide)) (fun _ => ?_)
    refine lv_iload_n hx hb dX2_crewsTold_9 rfl (lv_at hl 1 rfl) ?_
    refine lv_aload_n hx hb dX2_crewsTold_10 rfl (lv_at hl 2 rfl) ?_
    refine va_get (D := E.1) (ci := 2) (v := .ref g6) (C := RX2) (T := TX2) (N := 9) hx hb hts inX2 hown hK hP 0 rfl rfl 6 (by decide) fl31 (fun _ h9 => h9) rfl dX2_crewsTold_11 ?_
    refine lv_iload_n hx hb dX2_crewsTold_14 rfl (lv_at hl 0 rfl) ?_
    refine va_iald hx hb hK hP 1 0 rfl rfl (show vp_in 1 4 from by unfold vp_in; decide) dX2_crewsTold_15 ?_
    refine lv_topi (fun x_33 ex_33 => ?_)
    refine lv_iconst (v := (-1)) hx hb dX2_crewsTold_16 (by decide) ?_
    refine lv_icmp_ne (tgt := 24) hx hb dX2_crewsTold_17 (by decide) (fun c_34 => ?_) (fun c_34 => ?_)
    · refine lv_iconst (v := 1) hx hb dX2_crewsTold_24 (by decide) ?_
      refine lv_iadd hx hb dX2_crewsTold_25 ?_
      refine lv_topi (fun x_35 ex_35 => ?_)
      obtain rfl : x_35 = 1 := ex_35.trans (by decide +kernel)
      refine lv_istore_n (lv' := [(1, .int 1), (2, .int 1), (0, .ref h0)]) hx hb dX2_crewsTold_26 rfl hl (by decide) rfl (fun ls hl => ?_)
      refine lv_iinc (v := 2) (lv' := [(2, .int 2), (1, .int 1), (0, .ref h0)]) hx hb dX2_crewsTold_27 hl (k := 1) rfl (by decide) (by decide) rfl (fun ls hl => ?_)
      refine lv_goto (tgt := 4) hx hb dX2_crewsTold_30 (by decide) ?_
      refine lv_iload_n hx hb dX2_crewsTold_4 rfl (lv_at hl 0 rfl) ?_
      refine lv_iconst (v := 4) hx hb dX2_crewsTold_5 (by decide) ?_
      refine lv_icmp_ge (tgt := 33) hx hb dX2_crewsTold_6 (by decide) (fun c9 => absurd c9 (by decide)) (fun _ => ?_)
      refine lv_iload_n hx hb dX2_crewsTold_9 rfl (lv_at hl 1 rfl) ?_
      refine lv_aload_n hx hb dX2_crewsTold_10 rfl (lv_at hl 2 rfl) ?_
      refine va_get (D := E.1) (ci := 2) (v := .ref g6) (C := RX2) (T := TX2) (N := 9) hx hb hts inX2 hown hK hP 0 rfl rfl 6 (by decide) fl31 (fun _ h9 => h9) rfl dX2_crewsTold_11 ?_
      refine lv_iload_n hx hb dX2_crewsTold_14 rfl (lv_at hl 0 rfl) ?_
      refine va_iald hx hb hK hP 1 0 rfl rfl (show vp_in 2 4 from by unfold vp_in; decide) dX2_crewsTold_15 ?_
      refine lv_topi (fun x_36 ex_36 => ?_)
      refine lv_iconst (v := (-1)) hx hb dX2_crewsTold_16 (by decide) ?_
      refine lv_icmp_ne (tgt := 24) hx hb dX2_crewsTold_17 (by decide) (fun c_37 => ?_) (fun c_37 => ?_)
      · refine lv_iconst (v := 1) hx hb dX2_crewsTold_24 (by decide) ?_
        refine lv_iadd hx hb dX2_crewsTold_25 ?_
        refine lv_topi (fun x_38 ex_38 => ?_)
        obtain rfl : x_38 = 2 := ex_38.trans (by decide +kernel)
        refine lv_istore_n (lv' := [(1, .int 2), (2, .int 2), (0, .ref h0)]) hx hb dX2_crewsTold_26 rfl hl (by decide) rfl (fun ls hl => ?_)
        refine lv_iinc (v := 3) (lv' := [(2, .int 3), (1, .int 2), (0, .ref h0)]) hx hb dX2_crewsTold_27 hl (k := 1) rfl (by decide) (by decide) rfl (fun ls hl => ?_)
        refine lv_goto (tgt := 4) hx hb dX2_crewsTold_30 (by decide) ?_
        refine lv_iload_n hx hb dX2_crewsTold_4 rfl (lv_at hl 0 rfl) ?_
        refine lv_iconst (v := 4) hx hb dX2_crewsTold_5 (by decide) ?_
        refine lv_icmp_ge (tgt := 33) hx hb dX2_crewsTold_6 (by decide) (fun c9 => absurd c9 (by decide)) (fun _ => ?_)
        refine lv_iload_n hx hb dX2_crewsTold_9 rfl (lv_at hl 1 rfl) ?_
        refine lv_aload_n hx hb dX2_crewsTold_10 rfl (lv_at hl 2 rfl) ?_
        refine va_get (D := E.1) (ci := 2) (v := .ref g6) (C := RX2) (T := TX2) (N := 9) hx hb hts inX2 hown hK hP 0 rfl rfl 6 (by decide) fl31 (fun _ h9 => h9) rfl dX2_crewsTold_11 ?_
        refine lv_iload_n hx hb dX2_crewsTold_14 rfl (lv_at hl 0 rfl) ?_
        refine va_iald hx hb hK hP 1 0 rfl rfl (show vp_in 3 4 from by unfold vp_in; decide) dX2_crewsTold_15 ?_
        refine lv_topi (fun x_39 ex_39 => ?_)
        refine lv_iconst (v := (-1)) hx hb dX2_crewsTold_16 (by decide) ?_
        refine lv_icmp_ne (tgt := 24) hx hb dX2_crewsTold_17 (by decide) (fun c_40 => ?_) (fun c_40 => ?_)
        · refine lv_iconst (v := 1) hx hb dX2_crewsTold_24 (by decide) ?_
          refine lv_iadd hx hb dX2_crewsTold_25 ?_
          refine lv_topi (fun x_41 ex_41 => ?_)
          obtain rfl : x_41 = 3 := ex_41.trans (by decide +kernel)
          refine lv_istore_n (lv' := [(1, .int 3), (2, .int 3), (0, .ref h0)]) hx hb dX2_crewsTold_26 rfl hl (by decide) rfl (fun ls hl => ?_)
          refine lv_iinc (v := 4) (lv' := [(2, .int 4), (1, .int 3), (0, .ref h0)]) hx hb dX2_crewsTold_27 hl (k := 1) rfl (by decide) (by decide) rfl (fun ls hl => ?_)
          refine lv_goto (tgt := 4) hx hb dX2_crewsTold_30 (by decide) ?_
          refine lv_iload_n hx hb dX2_crewsTold_4 rfl (lv_at hl 0 rfl) ?_
          refine lv_iconst (v := 4) hx hb dX2_crewsTold_5 (by decide) ?_
          refine lv_icmp_ge (tgt := 33) hx hb dX2_crewsTold_6 (by decide) (fun _ => ?_) (fun c9 => absurd c9 (by decide))
          refine lv_iload_n hx hb dX2_crewsTold_33 rfl (lv_at hl 1 rfl) ?_
          have hP9 := hP.sub (ws' := [(h0, .inr (2, [.ref g1, .ref g2, .ref g3, .ref g4, .ref g5, .int (nI on), .ref g6, .ref g7, .ref g8])), (g6, .inl (E.2.1 0, 4, .inl d6))]) [0, 1] rfl
          have hD9 := hD.sub (ws' := [(h0, .inr (2, [.ref g1, .ref g2, .ref g3, .ref g4, .ref g5, .int (nI on), .ref g6, .ref g7, .ref g8])), (g6, .inl (E.2.1 0, 4, .inl d6))]) [0, 1] (by decide) rfl
          exact W.iret (v := 3) hx hb hr (fun t ht hW => ⟨⟨3, (), rfl, trivial, by rw [ht]; exact hP9, hD9⟩, hS.F ht⟩) hS.2.2 dX2_crewsTold_34
        · refine lv_iconst (v := 0) hx hb dX2_crewsTold_20 (by decide) ?_
          refine lv_goto (tgt := 25) hx hb dX2_crewsTold_21 (by decide) ?_
          refine lv_iadd hx hb dX2_crewsTold_25 ?_
          refine lv_topi (fun x_42 ex_42 => ?_)
          obtain rfl : x_42 = 2 := ex_42.trans (by decide +kernel)
          refine lv_istore_n (lv' := [(1, .int 2), (2, .int 3), (0, .ref h0)]) hx hb dX2_crewsTold_26 rfl hl (by decide) rfl (fun ls hl => ?_)
          refine lv_iinc (v := 4) (lv' := [(2, .int 4), (1, .int 2), (0, .ref h0)]) hx hb dX2_crewsTold_27 hl (k := 1) rfl (by decide) (by decide) rfl (fun ls hl => ?_)
          refine lv_goto (tgt := 4) hx hb dX2_crewsTold_30 (by decide) ?_
          refine lv_iload_n hx hb dX2_crewsTold_4 rfl (lv_at hl 0 rfl) ?_
          refine lv_iconst (v := 4) hx hb dX2_crewsTold_5 (by decide) ?_
          refine lv_icmp_ge (tgt := 33) hx hb dX2_crewsTold_6 (by decide) (fun _ => ?_) (fun c9 => absurd c9 (by decide))
          refine lv_iload_n hx hb dX2_crewsTold_33 rfl (lv_at hl 1 rfl) ?_
          have hP9 := hP.sub (ws' := [(h0, .inr (2, [.ref g1, .ref g2, .ref g3, .ref g4, .ref g5, .int (nI on), .ref g6, .ref g7, .ref g8])), (g6, .inl (E.2.1 0, 4, .inl d6))]) [0, 1] rfl
          have hD9 := hD.sub (ws' := [(h0, .inr (2, [.ref g1, .ref g2, .ref g3, .ref g4, .ref g5, .int (nI on), .ref g6, .ref g7, .ref g8])), (g6, .inl (E.2.1 0, 4, .inl d6))]) [0, 1] (by decide) rfl
          exact W.iret (v := 2) hx hb hr (fun t ht hW => ⟨⟨2, (), rfl, trivial, by rw [ht]; exact hP9, hD9⟩, hS.F ht⟩) hS.2.2 dX2_crewsTold_34
      · refine lv_iconst (v := 0) hx hb dX2_crewsTold_20 (by decide) ?_
        refine lv_goto (tgt := 25) hx hb dX2_crewsTold_21 (by decide) ?_
        refine lv_iadd hx hb dX2_crewsTold_25 ?_
        refine lv_topi (fun x_43 ex_43 => ?_)
        obtain rfl : x_43 = 1 := ex_43.trans (by decide +kernel)
        refine lv_istore_n (lv' := [(1, .int 1), (2, .int 2), (0, .ref h0)]) hx hb dX2_crewsTold_26 rfl hl (by decide) rfl (fun ls hl => ?_)
        refine lv_iinc (v := 3) (lv' := [(2, .int 3), (1, .int 1), (0, .ref h0)]) hx hb dX2_crewsTold_27 hl (k := 1) rfl (by decide) (by decide) rfl (fun ls hl => ?_)
        refine lv_goto (tgt := 4) hx hb dX2_crewsTold_30 (by decide) ?_
        refine lv_iload_n hx hb dX2_crewsTold_4 rfl (lv_at hl 0 rfl) ?_
        refine lv_iconst (v := 4) hx hb dX2_crewsTold_5 (by decide) ?_
        refine lv_icmp_ge (tgt := 33) hx hb dX2_crewsTold_6 (by decide) (fun c9 => absurd c9 (by decide)) (fun _ => ?_)
        refine lv_iload_n hx hb dX2_crewsTold_9 rfl (lv_at hl 1 rfl) ?_
        refine lv_aload_n hx hb dX2_crewsTold_10 rfl (lv_at hl 2 rfl) ?_
        refine va_get (D := E.1) (ci := 2) (v := .ref g6) (C := RX2) (T := TX2) (N := 9) hx hb hts inX2 hown hK hP 0 rfl rfl 6 (by decide) fl31 (fun _ h9 => h9) rfl dX2_crewsTold_11 ?_
        refine lv_iload_n hx hb dX2_crewsTold_14 rfl (lv_at hl 0 rfl) ?_
        refine va_iald hx hb hK hP 1 0 rfl rfl (show vp_in 3 4 from by unfold vp_in; decide) dX2_crewsTold_15 ?_
        refine lv_topi (fun x_44 ex_44 => ?_)
        refine lv_iconst (v := (-1)) hx hb dX2_crewsTold_16 (by decide) ?_
        refine lv_icmp_ne (tgt := 24) hx hb dX2_crewsTold_17 (by decide) (fun c_45 => ?_) (fun c_45 => ?_)
        · refine lv_iconst (v := 1) hx hb dX2_crewsTold_24 (by decide) ?_
          refine lv_iadd hx hb dX2_crewsTold_25 ?_
          refine lv_topi (fun x_46 ex_46 => ?_)
          obtain rfl : x_46 = 2 := ex_46.trans (by decide +kernel)
          refine lv_istore_n (lv' := [(1, .int 2), (2, .int 3), (0, .ref h0)]) hx hb dX2_crewsTold_26 rfl hl (by decide) rfl (fun ls hl => ?_)
          refine lv_iinc (v := 4) (lv' := [(2, .int 4), (1, .int 2), (0, .ref h0)]) hx hb dX2_crewsTold_27 hl (k := 1) rfl (by decide) (by decide) rfl (fun ls hl => ?_)
          refine lv_goto (tgt := 4) hx hb dX2_crewsTold_30 (by decide) ?_
          refine lv_iload_n hx hb dX2_crewsTold_4 rfl (lv_at hl 0 rfl) ?_
          refine lv_iconst (v := 4) hx hb dX2_crewsTold_5 (by decide) ?_
          refine lv_icmp_ge (tgt := 33) hx hb dX2_crewsTold_6 (by decide) (fun _ => ?_) (fun c9 => absurd c9 (by decide))
          refine lv_iload_n hx hb dX2_crewsTold_33 rfl (lv_at hl 1 rfl) ?_
          have hP9 := hP.sub (ws' := [(h0, .inr (2, [.ref g1, .ref g2, .ref g3, .ref g4, .ref g5, .int (nI on), .ref g6, .ref g7, .ref g8])), (g6, .inl (E.2.1 0, 4, .inl d6))]) [0, 1] rfl
          have hD9 := hD.sub (ws' := [(h0, .inr (2, [.ref g1, .ref g2, .ref g3, .ref g4, .ref g5, .int (nI on), .ref g6, .ref g7, .ref g8])), (g6, .inl (E.2.1 0, 4, .inl d6))]) [0, 1] (by decide) rfl
          exact W.iret (v := 2) hx hb hr (fun t ht hW => ⟨⟨2, (), rfl, trivial, by rw [ht]; exact hP9, hD9⟩, hS.F ht⟩) hS.2.2 dX2_crewsTold_34
        · refine lv_iconst (v := 0) hx hb dX2_crewsTold_20 (by decide) ?_
          refine lv_goto (tgt := 25) hx hb dX2_crewsTold_21 (by decide) ?_
          refine lv_iadd hx hb dX2_crewsTold_25 ?_
          refine lv_topi (fun x_47 ex_47 => ?_)
          obtain rfl : x_47 = 1 := ex_47.trans (by decide +kernel)
          refine lv_istore_n (lv' := [(1, .int 1), (2, .int 3), (0, .ref h0)]) hx hb dX2_crewsTold_26 rfl hl (by decide) rfl (fun ls hl => ?_)
          refine lv_iinc (v := 4) (lv' := [(2, .int 4), (1, .int 1), (0, .ref h0)]) hx hb dX2_crewsTold_27 hl (k := 1) rfl (by decide) (by decide) rfl (fun ls hl => ?_)
          refine lv_goto (tgt := 4) hx hb dX2_crewsTold_30 (by decide) ?_
          refine lv_iload_n hx hb dX2_crewsTold_4 rfl (lv_at hl 0 rfl) ?_
          refine lv_iconst (v := 4) hx hb dX2_crewsTold_5 (by decide) ?_
          refine lv_icmp_ge (tgt := 33) hx hb dX2_crewsTold_6 (by decide) (fun _ => ?_) (fun c9 => absurd c9 (by decide))
          refine lv_iload_n hx hb dX2_crewsTold_33 rfl (lv_at hl 1 rfl) ?_
          have hP9 := hP.sub (ws' := [(h0, .inr (2, [.ref g1, .ref g2, .ref g3, .ref g4, .ref g5, .int (nI on), .ref g6, .ref g7, .ref g8])), (g6, .inl (E.2.1 0, 4, .inl d6))]) [0, 1] rfl
          have hD9 := hD.sub (ws' := [(h0, .inr (2, [.ref g1, .ref g2, .ref g3, .ref g4, .ref g5, .int (nI on), .ref g6, .ref g7, .ref g8])), (g6, .inl (E.2.1 0, 4, .inl d6))]) [0, 1] (by decide) rfl
          exact W.iret (v := 1) hx hb hr (fun t ht hW => ⟨⟨1, (), rfl, trivial, by rw [ht]; exact hP9, hD9⟩, hS.F ht⟩) hS.2.2 dX2_crewsTold_34
    · refine lv_iconst (v := 0) hx hb dX2_crewsTold_20 (by decide) ?_
      refine lv_goto (tgt := 25) hx hb dX2_crewsTold_21 (by decide) ?_
      refine lv_iadd hx hb dX2_crewsTold_25 ?_
      refine lv_topi (fun x_48 ex_48 => ?_)
      obtain rfl : x_48 = 0 := ex_48.trans (by decide +kernel)
      refine lv_istore_n (lv' := [(1, .int 0), (2, .int 1), (0, .ref h0)]) hx hb dX2_crewsTold_26 rfl hl (by decide) rfl (fun ls hl => ?_)
      refine lv_iinc (v := 2) (lv' := [(2, .int 2), (1, .int 0), (0, .ref h0)]) hx hb dX2_crewsTold_27 hl (k := 1) rfl (by decide) (by decide) rfl (fun ls hl => ?_)
      refine lv_goto (tgt := 4) hx hb dX2_crewsTold_30 (by decide) ?_
      refine lv_iload_n hx hb dX2_crewsTold_4 rfl (lv_at hl 0 rfl) ?_
      refine lv_iconst (v := 4) hx hb dX2_crewsTold_5 (by decide) ?_
      refine lv_icmp_ge (tgt := 33) hx hb dX2_crewsTold_6 (by decide) (fun c9 => absurd c9 (by decide)) (fun _ => ?_)
      refine lv_iload_n hx hb dX2_crewsTold_9 rfl (lv_at hl 1 rfl) ?_
      refine lv_aload_n hx hb dX2_crewsTold_10 rfl (lv_at hl 2 rfl) ?_
      refine va_get (D := E.1) (ci := 2) (v := .ref g6) (C := RX2) (T := TX2) (N := 9) hx hb hts inX2 hown hK hP 0 rfl rfl 6 (by decide) fl31 (fun _ h9 => h9) rfl dX2_crewsTold_11 ?_
      refine lv_iload_n hx hb dX2_crewsTold_14 rfl (lv_at hl 0 rfl) ?_
      refine va_iald hx hb hK hP 1 0 rfl rfl (show vp_in 2 4 from by unfold vp_in; decide) dX2_crewsTold_15 ?_
      refine lv_topi (fun x_49 ex_49 => ?_)
      refine lv_iconst (v := (-1)) hx hb dX2_crewsTold_16 (by decide) ?_
      refine lv_icmp_ne (tgt := 24) hx hb dX2_crewsTold_17 (by decide) (fun c_50 => ?_) (fun c_50 => ?_)
      · refine lv_iconst (v := 1) hx hb dX2_crewsTold_24 (by decide) ?_
        refine lv_iadd hx hb dX2_crewsTold_25 ?_
        refine lv_topi (fun x_51 ex_51 => ?_)
        obtain rfl : x_51 = 1 := ex_51.trans (by decide +kernel)
        refine lv_istore_n (lv' := [(1, .int 1), (2, .int 2), (0, .ref h0)]) hx hb dX2_crewsTold_26 rfl hl (by decide) rfl (fun ls hl => ?_)
        refine lv_iinc (v := 3) (lv' := [(2, .int 3), (1, .int 1), (0, .ref h0)]) hx hb dX2_crewsTold_27 hl (k := 1) rfl (by decide) (by decide) rfl (fun ls hl => ?_)
        refine lv_goto (tgt := 4) hx hb dX2_crewsTold_30 (by decide) ?_
        refine lv_iload_n hx hb dX2_crewsTold_4 rfl (lv_at hl 0 rfl) ?_
        refine lv_iconst (v := 4) hx hb dX2_crewsTold_5 (by decide) ?_
        refine lv_icmp_ge (tgt := 33) hx hb dX2_crewsTold_6 (by decide) (fun c9 => absurd c9 (by decide)) (fun _ => ?_)
        refine lv_iload_n hx hb dX2_crewsTold_9 rfl (lv_at hl 1 rfl) ?_
        refine lv_aload_n hx hb dX2_crewsTold_10 rfl (lv_at hl 2 rfl) ?_
        refine va_get (D := E.1) (ci := 2) (v := .ref g6) (C := RX2) (T := TX2) (N := 9) hx hb hts inX2 hown hK hP 0 rfl rfl 6 (by decide) fl31 (fun _ h9 => h9) rfl dX2_crewsTold_11 ?_
        refine lv_iload_n hx hb dX2_crewsTold_14 rfl (lv_at hl 0 rfl) ?_
        refine va_iald hx hb hK hP 1 0 rfl rfl (show vp_in 3 4 from by unfold vp_in; decide) dX2_crewsTold_15 ?_
        refine lv_topi (fun x_52 ex_52 => ?_)
        refine lv_iconst (v := (-1)) hx hb dX2_crewsTold_16 (by decide) ?_
        refine lv_icmp_ne (tgt := 24) hx hb dX2_crewsTold_17 (by decide) (fun c_53 => ?_) (fun c_53 => ?_)
        · refine lv_iconst (v := 1) hx hb dX2_crewsTold_24 (by decide) ?_
          refine lv_iadd hx hb dX2_crewsTold_25 ?_
          refine lv_topi (fun x_54 ex_54 => ?_)
          obtain rfl : x_54 = 2 := ex_54.trans (by decide +kernel)
          refine lv_istore_n (lv' := [(1, .int 2), (2, .int 3), (0, .ref h0)]) hx hb dX2_crewsTold_26 rfl hl (by decide) rfl (fun ls hl => ?_)
          refine lv_iinc (v := 4) (lv' := [(2, .int 4), (1, .int 2), (0, .ref h0)]) hx hb dX2_crewsTold_27 hl (k := 1) rfl (by decide) (by decide) rfl (fun ls hl => ?_)
          refine lv_goto (tgt := 4) hx hb dX2_crewsTold_30 (by decide) ?_
          refine lv_iload_n hx hb dX2_crewsTold_4 rfl (lv_at hl 0 rfl) ?_
          refine lv_iconst (v := 4) hx hb dX2_crewsTold_5 (by decide) ?_
          refine lv_icmp_ge (tgt := 33) hx hb dX2_crewsTold_6 (by decide) (fun _ => ?_) (fun c9 => absurd c9 (by decide))
          refine lv_iload_n hx hb dX2_crewsTold_33 rfl (lv_at hl 1 rfl) ?_
          have hP9 := hP.sub (ws' := [(h0, .inr (2, [.ref g1, .ref g2, .ref g3, .ref g4, .ref g5, .int (nI on), .ref g6, .ref g7, .ref g8])), (g6, .inl (E.2.1 0, 4, .inl d6))]) [0, 1] rfl
          have hD9 := hD.sub (ws' := [(h0, .inr (2, [.ref g1, .ref g2, .ref g3, .ref g4, .ref g5, .int (nI on), .ref g6, .ref g7, .ref g8])), (g6, .inl (E.2.1 0, 4, .inl d6))]) [0, 1] (by decide) rfl
          exact W.iret (v := 2) hx hb hr (fun t ht hW => ⟨⟨2, (), rfl, trivial, by rw [ht]; exact hP9, hD9⟩, hS.F ht⟩) hS.2.2 dX2_crewsTold_34
        · refine lv_iconst (v := 0) hx hb dX2_crewsTold_20 (by decide) ?_
          refine lv_goto (tgt := 25) hx hb dX2_crewsTold_21 (by decide) ?_
          refine lv_iadd hx hb dX2_crewsTold_25 ?_
          refine lv_topi (fun x_55 ex_55 => ?_)
          obtain rfl : x_55 = 1 := ex_55.trans (by decide +kernel)
          refine lv_istore_n (lv' := [(1, .int 1), (2, .int 3), (0, .ref h0)]) hx hb dX2_crewsTold_26 rfl hl (by decide) rfl (fun ls hl => ?_)
          refine lv_iinc (v := 4) (lv' := [(2, .int 4), (1, .int 1), (0, .ref h0)]) hx hb dX2_crewsTold_27 hl (k := 1) rfl (by decide) (by decide) rfl (fun ls hl => ?_)
          refine lv_goto (tgt := 4) hx hb dX2_crewsTold_30 (by decide) ?_
          refine lv_iload_n hx hb dX2_crewsTold_4 rfl (lv_at hl 0 rfl) ?_
          refine lv_iconst (v := 4) hx hb dX2_crewsTold_5 (by decide) ?_
          refine lv_icmp_ge (tgt := 33) hx hb dX2_crewsTold_6 (by decide) (fun _ => ?_) (fun c9 => absurd c9 (by decide))
          refine lv_iload_n hx hb dX2_crewsTold_33 rfl (lv_at hl 1 rfl) ?_
          have hP9 := hP.sub (ws' := [(h0, .inr (2, [.ref g1, .ref g2, .ref g3, .ref g4, .ref g5, .int (nI on), .ref g6, .ref g7, .ref g8])), (g6, .inl (E.2.1 0, 4, .inl d6))]) [0, 1] rfl
          have hD9 := hD.sub (ws' := [(h0, .inr (2, [.ref g1, .ref g2, .ref g3, .ref g4, .ref g5, .int (nI on), .ref g6, .ref g7, .ref g8])), (g6, .inl (E.2.1 0, 4, .inl d6))]) [0, 1] (by decide) rfl
          exact W.iret (v := 1) hx hb hr (fun t ht hW => ⟨⟨1, (), rfl, trivial, by rw [ht]; exact hP9, hD9⟩, hS.F ht⟩) hS.2.2 dX2_crewsTold_34
      · refine lv_iconst (v := 0) hx hb dX2_crewsTold_20 (by decide) ?_
        refine lv_goto (tgt := 25) hx hb dX2_crewsTold_21 (by decide) ?_
        refine lv_iadd hx hb dX2_crewsTold_25 ?_
        refine lv_topi (fun x_56 ex_56 => ?_)
        obtain rfl : x_56 = 0 := ex_56.trans (by decide +kernel)
        refine lv_istore_n (lv' := [(1, .int 0), (2, .int 2), (0, .ref h0)]) hx hb dX2_crewsTold_26 rfl hl (by decide) rfl (fun ls hl => ?_)
        refine lv_iinc (v := 3) (lv' := [(2, .int 3), (1, .int 0), (0, .ref h0)]) hx hb dX2_crewsTold_27 hl (k := 1) rfl (by decide) (by decide) rfl (fun ls hl => ?_)
        refine lv_goto (tgt := 4) hx hb dX2_crewsTold_30 (by decide) ?_
        refine lv_iload_n hx hb dX2_crewsTold_4 rfl (lv_at hl 0 rfl) ?_
        refine lv_iconst (v := 4) hx hb dX2_crewsTold_5 (by decide) ?_
        refine lv_icmp_ge (tgt := 33) hx hb dX2_crewsTold_6 (by decide) (fun c9 => absurd c9 (by decide)) (fun _ => ?_)
        refine lv_iload_n hx hb dX2_crewsTold_9 rfl (lv_at hl 1 rfl) ?_
        refine lv_aload_n hx hb dX2_crewsTold_10 rfl (lv_at hl 2 rfl) ?_
        refine va_get (D := E.1) (ci := 2) (v := .ref g6) (C := RX2) (T := TX2) (N := 9) hx hb hts inX2 hown hK hP 0 rfl rfl 6 (by decide) fl31 (fun _ h9 => h9) rfl dX2_crewsTold_11 ?_
        refine lv_iload_n hx hb dX2_crewsTold_14 rfl (lv_at hl 0 rfl) ?_
        refine va_iald hx hb hK hP 1 0 rfl rfl (show vp_in 3 4 from by unfold vp_in; decide) dX2_crewsTold_15 ?_
        refine lv_topi (fun x_57 ex_57 => ?_)
        refine lv_iconst (v := (-1)) hx hb dX2_crewsTold_16 (by decide) ?_
        refine lv_icmp_ne (tgt := 24) hx hb dX2_crewsTold_17 (by decide) (fun c_58 => ?_) (fun c_58 => ?_)
        · refine lv_iconst (v := 1) hx hb dX2_crewsTold_24 (by decide) ?_
          refine lv_iadd hx hb dX2_crewsTold_25 ?_
          refine lv_topi (fun x_59 ex_59 => ?_)
          obtain rfl : x_59 = 1 := ex_59.trans (by decide +kernel)
          refine lv_istore_n (lv' := [(1, .int 1), (2, .int 3), (0, .ref h0)]) hx hb dX2_crewsTold_26 rfl hl (by decide) rfl (fun ls hl => ?_)
          refine lv_iinc (v := 4) (lv' := [(2, .int 4), (1, .int 1), (0, .ref h0)]) hx hb dX2_crewsTold_27 hl (k := 1) rfl (by decide) (by decide) rfl (fun ls hl => ?_)
          refine lv_goto (tgt := 4) hx hb dX2_crewsTold_30 (by decide) ?_
          refine lv_iload_n hx hb dX2_crewsTold_4 rfl (lv_at hl 0 rfl) ?_
          refine lv_iconst (v := 4) hx hb dX2_crewsTold_5 (by decide) ?_
          refine lv_icmp_ge (tgt := 33) hx hb dX2_crewsTold_6 (by decide) (fun _ => ?_) (fun c9 => absurd c9 (by decide))
          refine lv_iload_n hx hb dX2_crewsTold_33 rfl (lv_at hl 1 rfl) ?_
          have hP9 := hP.sub (ws' := [(h0, .inr (2, [.ref g1, .ref g2, .ref g3, .ref g4, .ref g5, .int (nI on), .ref g6, .ref g7, .ref g8])), (g6, .inl (E.2.1 0, 4, .inl d6))]) [0, 1] rfl
          have hD9 := hD.sub (ws' := [(h0, .inr (2, [.ref g1, .ref g2, .ref g3, .ref g4, .ref g5, .int (nI on), .ref g6, .ref g7, .ref g8])), (g6, .inl (E.2.1 0, 4, .inl d6))]) [0, 1] (by decide) rfl
          exact W.iret (v := 1) hx hb hr (fun t ht hW => ⟨⟨1, (), rfl, trivial, by rw [ht]; exact hP9, hD9⟩, hS.F ht⟩) hS.2.2 dX2_crewsTold_34
        · refine lv_iconst (v := 0) hx hb dX2_crewsTold_20 (by decide) ?_
          refine lv_goto (tgt := 25) hx hb dX2_crewsTold_21 (by decide) ?_
          refine lv_iadd hx hb dX2_crewsTold_25 ?_
          refine lv_topi (fun x_60 ex_60 => ?_)
          obtain rfl : x_60 = 0 := ex_60.trans (by decide +kernel)
          refine lv_istore_n (lv' := [(1, .int 0), (2, .int 3), (0, .ref h0)]) hx hb dX2_crewsTold_26 rfl hl (by decide) rfl (fun ls hl => ?_)
          refine lv_iinc (v := 4) (lv' := [(2, .int 4), (1, .int 0), (0, .ref h0)]) hx hb dX2_crewsTold_27 hl (k := 1) rfl (by decide) (by decide) rfl (fun ls hl => ?_)
          refine lv_goto (tgt := 4) hx hb dX2_crewsTold_30 (by decide) ?_
          refine lv_iload_n hx hb dX2_crewsTold_4 rfl (lv_at hl 0 rfl) ?_
          refine lv_iconst (v := 4) hx hb dX2_crewsTold_5 (by decide) ?_
          refine lv_icmp_ge (tgt := 33) hx hb dX2_crewsTold_6 (by decide) (fun _ => ?_) (fun c9 => absurd c9 (by decide))
          refine lv_iload_n hx hb dX2_crewsTold_33 rfl (lv_at hl 1 rfl) ?_
          have hP9 := hP.sub (ws' := [(h0, .inr (2, [.ref g1, .ref g2, .ref g3, .ref g4, .ref g5, .int (nI on), .ref g6, .ref g7, .ref g8])), (g6, .inl (E.2.1 0, 4, .inl d6))]) [0, 1] rfl
          have hD9 := hD.sub (ws' := [(h0, .inr (2, [.ref g1, .ref g2, .ref g3, .ref g4, .ref g5, .int (nI on), .ref g6, .ref g7, .ref g8])), (g6, .inl (E.2.1 0, 4, .inl d6))]) [0, 1] (by decide) rfl
          exact W.iret (v := 0) hx hb hr (fun t ht hW => ⟨⟨0, (), rfl, trivial, by rw [ht]; exact hP9, hD9⟩, hS.F ht⟩) hS.2.2 dX2_crewsTold_34
set_option maxHeartbeats 4000000 in
set_option maxRecDepth 100000 in
theorem c_X3_outdone (l : Launch) (E : vE) (h0 : Nat) (of : Nat) (e1 : Nat) (e2 : Nat) (e3 : Nat) (e4 : Nat) (ax : Nat) (fr : Int32) (pd : Int32) (c3 : Nat → Int32) (c4 : Nat → Int32) (sz : Nat) (hax : ax < 896) : Met l yX3_outdone wsX3_outdone ({ frames := 0, cells := 0, slots := 0, locals := 0 }) (pcW E [.ref h0, .int (nI ax), .int fr, .int pd] sz [(h0, .inr (3, [.ref of, .ref e1, .ref e2, .ref e3, .ref e4])), (e3, .inl (E.2.1 0, 896, .inl c3)), (e4, .inl (E.2.1 0, 896, .inl c4))]) (va_Qi (fun (r : Int32) (u : (Nat → Int32) × (Nat → Int32)) => match u with | (c32, c42) => r = 0 ∨ r = 1) (fun (u : (Nat → Int32) × (Nat → Int32)) (t : State) => match u with | (c32, c42) => wB E (va_A [(h0, .inr (3, [.ref of, .ref e1, .ref e2, .ref e3, .ref e4])), (e3, .inl (E.2.1 0, 896, .inl c3)), (e4, .inl (E.2.1 0, 896, .inl c4))] sz) [(h0, .inr (3, [.ref of, .ref e1, .ref e2, .ref e3, .ref e4])), (e3, .inl (E.2.1 0, 896, .inl c32)), (e4, .inl (E.2.1 0, 896, .inl c42))] t) (va_A [(h0, .inr (3, [.ref of, .ref e1, .ref e2, .ref e3, .ref e4])), (e3, .inl (E.2.1 0, 896, .inl c3)), (e4, .inl (E.2.1 0, 896, .inl c4))] sz)) 0 0 (va_A [(h0, .inr (3, [.ref of, .ref e1, .ref e2, .ref e3, .ref e4])), (e3, .inl (E.2.1 0, 896, .inl c3)), (e4, .inl (E.2.1 0, 896, .inl c4))] sz) := by
  refine Met.ofW (cc := cX3_outdone) (maxL := 4) (ret := (some .boolean)) (by decide) rfl ?_
  intro p e s m args below meth c s₁ B hml hv
  obtain ⟨rfl, hsz, hP, hkn, hD0, hst⟩ := hv
  have hx := B.exec
  have hb := B.bytes
  have hr := B.returns
  have hts := atoms_spec (ws := wsX3_outdone) B.pre
  have hown : s.vm.findClass RX3 = some m.cls := findClass_of_methodNamed B.named
  have hlocks := B.notSynchronized
  subst hsz
  have hD := hD0.self (sz := s.heap.size)
  have hK := hkn.1
  have hAO := hkn.2.2.1
  generalize hAe : va_A [(h0, .inr (3, [.ref of, .ref e1, .ref e2, .ref e3, .ref e4])), (e3, .inl (E.2.1 0, 896, .inl c3)), (e4, .inl (E.2.1 0, 896, .inl c4))] s.heap.size = A at hD hst ⊢
  have hA : ∀ q : Nat, s.heap.size ≤ q → A q := fun q h => by rw [← hAe]; exact Or.inr h
  have hS : va_S A s.heap s.heap [] := va_S.rf
  have hP : va_P E.1 vwCl [(h0, .inr (3, [.ref of, .ref e1, .ref e2, .ref e3, .ref e4])), (e3, .inl (E.2.1 0, 896, .inl c3)), (e4, .inl (E.2.1 0, 896, .inl c4))] s.heap := hP
  have hl := lv_entry ([.ref h0, .int (nI ax), .int fr, .int pd]) (n := 4) (Nat.le_of_ble_eq_true rfl)
  rw [lg_entry_eq]
  generalize (lg_sl ([.ref h0, .int (nI ax), .int fr, .int pd]) ++ List.replicate (4 - (lg_sl ([.ref h0, .int (nI ax), .int fr, .int pd])).length) Slot.unset).toArray = ls at hl ⊢
  have hl : lv_has ls 4 [(0, .ref h0), (1, .int (nI ax)), (2, .int fr), (3, .int pd)] := hl
  have fl18 := hts (.fieldLink RX3 18 "BoatsHome$Orders" "seenDays" "[I") (by first | exact List.mem_of_getElem? (i := 1) rfl | decide +kernel)
  have fl21 := hts (.fieldLink RX3 21 "BoatsHome$Orders" "seenCosts" "[I") (by first | exact List.mem_of_getElem? (i := 2) rfl | decide +kernel)
  have inX3 : ∀ w ∈ u_ws RX3 TX3 5, w ∈ wsX3_outdone := by first | exact fun w h9 => (List.mem_cons_of_mem _ (List.mem_append_right _ h9)) | decide +kernel
  refine lv_aload_n hx hb dX3_outdone_0 rfl (lv_at hl 0 rfl) ?_
  refine va_get (D := E.1) (ci := 3) (v := .ref e3) (C := RX3) (T := TX3) (N := 5) hx hb hts inX3 hown hK hP 0 rfl rfl 3 (by decide) fl18 (fun _ h9 => h9) rfl dX3_outdone_1 ?_
  refine lv_iload_n hx hb dX3_outdone_4 rfl (lv_at hl 1 rfl) ?_
  have hi_1 : vp_in (nI ax) 896 := vp_in_nI hax (by decide)
  refine va_iald hx hb hK hP 1 0 rfl rfl hi_1 dX3_outdone_5 ?_
  refine lv_topi (fun x_2 ex_2 => ?_)
  refine lv_iload_n hx hb dX3_outdone_6 rfl (lv_at hl 2 rfl) ?_
  refine lv_icmp_gt (tgt := 22) hx hb dX3_outdone_7 (by decide) (fun c_3 => ?_) (fun c_3 => ?_)
  · refine lv_iload_n hx hb dX3_outdone_22 rfl (lv_at hl 2 rfl) ?_
    refine lv_aload_n hx hb dX3_outdone_23 rfl (lv_at hl 0 rfl) ?_
    refine va_get (D := E.1) (ci := 3) (v := .ref e3) (C := RX3) (T := TX3) (N := 5) hx hb hts inX3 hown hK hP 0 rfl rfl 3 (by decide) fl18 (fun _ h9 => h9) rfl dX3_outdone_24 ?_
    refine lv_iload_n hx hb dX3_outdone_27 rfl (lv_at hl 1 rfl) ?_
    refine va_iald hx hb hK hP 1 0 rfl rfl hi_1 dX3_outdone_28 ?_
    refine lv_topi (fun x_4 ex_4 => ?_)
    refine lv_icmp_gt (tgt := 56) hx hb dX3_outdone_29 (by decide) (fun c_5 => ?_) (fun c_5 => ?_)
    · refine lv_iconst (v := 0) hx hb dX3_outdone_56 (by decide) ?_
      have hP9 := hP.sub (ws' := [(h0, .inr (3, [.ref of, .ref e1, .ref e2, .ref e3, .ref e4])), (e3, .inl (E.2.1 0, 896, .inl c3)), (e4, .inl (E.2.1 0, 896, .inl c4))]) [0, 1, 2] rfl
      have hD9 := hD.sub (ws' := [(h0, .inr (3, [.ref of, .ref e1, .ref e2, .ref e3, .ref e4])), (e3, .inl (E.2.1 0, 896, .inl c3)), (e4, .inl (E.2.1 0, 896, .inl c4))]) [0, 1, 2] (by decide) rfl
      exact W.zret (v := 0) hx hb hr (by decide) (fun t ht hW => ⟨⟨0, (c3, c4), rfl, Or.inl rfl, by rw [ht]; exact hP9, hD9⟩, hS.F ht⟩) hS.2.2 dX3_outdone_57
    · refine lv_iload_n hx hb dX3_outdone_32 rfl (lv_at hl 3 rfl) ?_
      refine lv_aload_n hx hb dX3_outdone_33 rfl (lv_at hl 0 rfl) ?_
      refine va_get (D := E.1) (ci := 3) (v := .ref e4) (C := RX3) (T := TX3) (N := 5) hx hb hts inX3 hown hK hP 0 rfl rfl 4 (by decide) fl21 (fun _ h9 => h9) rfl dX3_outdone_34 ?_
      refine lv_iload_n hx hb dX3_outdone_37 rfl (lv_at hl 1 rfl) ?_
      refine va_iald hx hb hK hP 2 0 rfl rfl hi_1 dX3_outdone_38 ?_
      refine lv_topi (fun x_6 ex_6 => ?_)
      refine lv_icmp_gt (tgt := 56) hx hb dX3_outdone_39 (by decide) (fun c_7 => ?_) (fun c_7 => ?_)
      · refine lv_iconst (v := 0) hx hb dX3_outdone_56 (by decide) ?_
        have hP9 := hP.sub (ws' := [(h0, .inr (3, [.ref of, .ref e1, .ref e2, .ref e3, .ref e4])), (e3, .inl (E.2.1 0, 896, .inl c3)), (e4, .inl (E.2.1 0, 896, .inl c4))]) [0, 1, 2] rfl
        have hD9 := hD.sub (ws' := [(h0, .inr (3, [.ref of, .ref e1, .ref e2, .ref e3, .ref e4])), (e3, .inl (E.2.1 0, 896, .inl c3)), (e4, .inl (E.2.1 0, 896, .inl c4))]) [0, 1, 2] (by decide) rfl
        exact W.zret (v := 0) hx hb hr (by decide) (fun t ht hW => ⟨⟨0, (c3, c4), rfl, Or.inl rfl, by rw [ht]; exact hP9, hD9⟩, hS.F ht⟩) hS.2.2 dX3_outdone_57
      · refine lv_aload_n hx hb dX3_outdone_42 rfl (lv_at hl 0 rfl) ?_
        refine va_get (D := E.1) (ci := 3) (v := .ref e3) (C := RX3) (T := TX3) (N := 5) hx hb hts inX3 hown hK hP 0 rfl rfl 3 (by decide) fl18 (fun _ h9 => h9) rfl dX3_outdone_43 ?_
        refine lv_iload_n hx hb dX3_outdone_46 rfl (lv_at hl 1 rfl) ?_
        refine lv_iload_n hx hb dX3_outdone_47 rfl (lv_at hl 2 rfl) ?_
        refine va_iast hx hb hK hP hD hS 1 0 rfl rfl hi_1 dX3_outdone_48 (fun H locs hP hD hS => ?_)
        have hP : va_P E.1 vwCl [(h0, .inr (3, [.ref of, .ref e1, .ref e2, .ref e3, .ref e4])), (e3, .inl (E.2.1 0, 896, .inl (upd c3 (nI ax).toNatClampNeg fr))), (e4, .inl (E.2.1 0, 896, .inl c4))] H := hP
        have hD : va_D A [(h0, .inr (3, [.ref of, .ref e1, .ref e2, .ref e3, .ref e4])), (e3, .inl (E.2.1 0, 896, .inl (upd c3 (nI ax).toNatClampNeg fr))), (e4, .inl (E.2.1 0, 896, .inl c4))] := hD
        obtain ⟨f_8, ef_8⟩ : ∃ g : Nat → Int32, g = upd c3 (nI ax).toNatClampNeg fr := ⟨_, rfl⟩
        rw [← ef_8] at hP hD
        refine lv_aload_n hx hb dX3_outdone_49 rfl (lv_at hl 0 rfl) ?_
        refine va_get (D := E.1) (ci := 3) (v := .ref e4) (C := RX3) (T := TX3) (N := 5) hx hb hts inX3 hown hK hP 0 rfl rfl 4 (by decide) fl21 (fun _ h9 => h9) rfl dX3_outdone_50 ?_
        refine lv_iload_n hx hb dX3_outdone_53 rfl (lv_at hl 1 rfl) ?_
        refine lv_iload_n hx hb dX3_outdone_54 rfl (lv_at hl 3 rfl) ?_
        refine va_iast hx hb hK hP hD hS 2 0 rfl rfl hi_1 dX3_outdone_55 (fun H locs hP hD hS => ?_)
        have hP : va_P E.1 vwCl [(h0, .inr (3, [.ref of, .ref e1, .ref e2, .ref e3, .ref e4])), (e3, .inl (E.2.1 0, 896, .inl f_8)), (e4, .inl (E.2.1 0, 896, .inl (upd c4 (nI ax).toNatClampNeg pd)))] H := hP
        have hD : va_D A [(h0, .inr (3, [.ref of, .ref e1, .ref e2, .ref e3, .ref e4])), (e3, .inl (E.2.1 0, 896, .inl f_8)), (e4, .inl (E.2.1 0, 896, .inl (upd c4 (nI ax).toNatClampNeg pd)))] := hD
        obtain ⟨f_9, ef_9⟩ : ∃ g : Nat → Int32, g = upd c4 (nI ax).toNatClampNeg pd := ⟨_, rfl⟩
        rw [← ef_9] at hP hD
        refine lv_iconst (v := 0) hx hb dX3_outdone_56 (by decide) ?_
        have hP9 := hP.sub (ws' := [(h0, .inr (3, [.ref of, .ref e1, .ref e2, .ref e3, .ref e4])), (e3, .inl (E.2.1 0, 896, .inl f_8)), (e4, .inl (E.2.1 0, 896, .inl f_9))]) [0, 1, 2] rfl
        have hD9 := hD.sub (ws' := [(h0, .inr (3, [.ref of, .ref e1, .ref e2, .ref e3, .ref e4])), (e3, .inl (E.2.1 0, 896, .inl f_8)), (e4, .inl (E.2.1 0, 896, .inl f_9))]) [0, 1, 2] (by decide) rfl
        exact W.zret (v := 0) hx hb hr (by decide) (fun t ht hW => ⟨⟨0, (f_8, f_9), rfl, Or.inl rfl, by rw [ht]; exact hP9, hD9⟩, hS.F ht⟩) hS.2.2 dX3_outdone_57
  · refine lv_aload_n hx hb dX3_outdone_10 rfl (lv_at hl 0 rfl) ?_
    refine va_get (D := E.1) (ci := 3) (v := .ref e4) (C := RX3) (T := TX3) (N := 5) hx hb hts inX3 hown hK hP 0 rfl rfl 4 (by decide) fl21 (fun _ h9 => h9) rfl dX3_outdone_11 ?_
    refine lv_iload_n hx hb dX3_outdone_14 rfl (lv_at hl 1 rfl) ?_
    refine va_iald hx hb hK hP 2 0 rfl rfl hi_1 dX3_outdone_15 ?_
    refine lv_topi (fun x_10 ex_10 => ?_)
    refine lv_iload_n hx hb dX3_outdone_16 rfl (lv_at hl 3 rfl) ?_
    refine lv_icmp_gt (tgt := 22) hx hb dX3_outdone_17 (by decide) (fun c_11 => ?_) (fun c_11 => ?_)
    · refine lv_iload_n hx hb dX3_outdone_22 rfl (lv_at hl 2 rfl) ?_
      refine lv_aload_n hx hb dX3_outdone_23 rfl (lv_at hl 0 rfl) ?_
      refine va_get (D := E.1) (ci := 3) (v := .ref e3) (C := RX3) (T := TX3) (N := 5) hx hb hts inX3 hown hK hP 0 rfl rfl 3 (by decide) fl18 (fun _ h9 => h9) rfl dX3_outdone_24 ?_
      refine lv_iload_n hx hb dX3_outdone_27 rfl (lv_at hl 1 rfl) ?_
      refine va_iald hx hb hK hP 1 0 rfl rfl hi_1 dX3_outdone_28 ?_
      refine lv_topi (fun x_12 ex_12 => ?_)
      refine lv_icmp_gt (tgt := 56) hx hb dX3_outdone_29 (by decide) (fun c_13 => ?_) (fun c_13 => ?_)
      · refine lv_iconst (v := 0) hx hb dX3_outdone_56 (by decide) ?_
        have hP9 := hP.sub (ws' := [(h0, .inr (3, [.ref of, .ref e1, .ref e2, .ref e3, .ref e4])), (e3, .inl (E.2.1 0, 896, .inl c3)), (e4, .inl (E.2.1 0, 896, .inl c4))]) [0, 1, 2] rfl
        have hD9 := hD.sub (ws' := [(h0, .inr (3, [.ref of, .ref e1, .ref e2, .ref e3, .ref e4])), (e3, .inl (E.2.1 0, 896, .inl c3)), (e4, .inl (E.2.1 0, 896, .inl c4))]) [0, 1, 2] (by decide) rfl
        exact W.zret (v := 0) hx hb hr (by decide) (fun t ht hW => ⟨⟨0, (c3, c4), rfl, Or.inl rfl, by rw [ht]; exact hP9, hD9⟩, hS.F ht⟩) hS.2.2 dX3_outdone_57
      · refine lv_iload_n hx hb dX3_outdone_32 rfl (lv_at hl 3 rfl) ?_
        refine lv_aload_n hx hb dX3_outdone_33 rfl (lv_at hl 0 rfl) ?_
        refine va_get (D := E.1) (ci := 3) (v := .ref e4) (C := RX3) (T := TX3) (N := 5) hx hb hts inX3 hown hK hP 0 rfl rfl 4 (by decide) fl21 (fun _ h9 => h9) rfl dX3_outdone_34 ?_
        refine lv_iload_n hx hb dX3_outdone_37 rfl (lv_at hl 1 rfl) ?_
        refine va_iald hx hb hK hP 2 0 rfl rfl hi_1 dX3_outdone_38 ?_
        refine lv_topi (fun x_14 ex_14 => ?_)
        refine lv_icmp_gt (tgt := 56) hx hb dX3_outdone_39 (by decide) (fun c_15 => ?_) (fun c_15 => ?_)
        · refine lv_iconst (v := 0) hx hb dX3_outdone_56 (by decide) ?_
          have hP9 := hP.sub (ws' := [(h0, .inr (3, [.ref of, .ref e1, .ref e2, .ref e3, .ref e4])), (e3, .inl (E.2.1 0, 896, .inl c3)), (e4, .inl (E.2.1 0, 896, .inl c4))]) [0, 1, 2] rfl
          have hD9 := hD.sub (ws' := [(h0, .inr (3, [.ref of, .ref e1, .ref e2, .ref e3, .ref e4])), (e3, .inl (E.2.1 0, 896, .inl c3)), (e4, .inl (E.2.1 0, 896, .inl c4))]) [0, 1, 2] (by decide) rfl
          exact W.zret (v := 0) hx hb hr (by decide) (fun t ht hW => ⟨⟨0, (c3, c4), rfl, Or.inl rfl, by rw [ht]; exact hP9, hD9⟩, hS.F ht⟩) hS.2.2 dX3_outdone_57
        · refine lv_aload_n hx hb dX3_outdone_42 rfl (lv_at hl 0 rfl) ?_
          refine va_get (D := E.1) (ci := 3) (v := .ref e3) (C := RX3) (T := TX3) (N := 5) hx hb hts inX3 hown hK hP 0 rfl rfl 3 (by decide) fl18 (fun _ h9 => h9) rfl dX3_outdone_43 ?_
          refine lv_iload_n hx hb dX3_outdone_46 rfl (lv_at hl 1 rfl) ?_
          refine lv_iload_n hx hb dX3_outdone_47 rfl (lv_at hl 2 rfl) ?_
          refine va_iast hx hb hK hP hD hS 1 0 rfl rfl hi_1 dX3_outdone_48 (fun H locs hP hD hS => ?_)
          have hP : va_P E.1 vwCl [(h0, .inr (3, [.ref of, .ref e1, .ref e2, .ref e3, .ref e4])), (e3, .inl (E.2.1 0, 896, .inl (upd c3 (nI ax).toNatClampNeg fr))), (e4, .inl (E.2.1 0, 896, .inl c4))] H := hP
          have hD : va_D A [(h0, .inr (3, [.ref of, .ref e1, .ref e2, .ref e3, .ref e4])), (e3, .inl (E.2.1 0, 896, .inl (upd c3 (nI ax).toNatClampNeg fr))), (e4, .inl (E.2.1 0, 896, .inl c4))] := hD
          obtain ⟨f_16, ef_16⟩ : ∃ g : Nat → Int32, g = upd c3 (nI ax).toNatClampNeg fr := ⟨_, rfl⟩
          rw [← ef_16] at hP hD
          refine lv_aload_n hx hb dX3_outdone_49 rfl (lv_at hl 0 rfl) ?_
          refine va_get (D := E.1) (ci := 3) (v := .ref e4) (C := RX3) (T := TX3) (N := 5) hx hb hts inX3 hown hK hP 0 rfl rfl 4 (by decide) fl21 (fun _ h9 => h9) rfl dX3_outdone_50 ?_
          refine lv_iload_n hx hb dX3_outdone_53 rfl (lv_at hl 1 rfl) ?_
          refine lv_iload_n hx hb dX3_outdone_54 rfl (lv_at hl 3 rfl) ?_
          refine va_iast hx hb hK hP hD hS 2 0 rfl rfl hi_1 dX3_outdone_55 (fun H locs hP hD hS => ?_)
          have hP : va_P E.1 vwCl [(h0, .inr (3, [.ref of, .ref e1, .ref e2, .ref e3, .ref e4])), (e3, .inl (E.2.1 0, 896, .inl f_16)), (e4, .inl (E.2.1 0, 896, .inl (upd c4 (nI ax).toNatClampNeg pd)))] H := hP
          have hD : va_D A [(h0, .inr (3, [.ref of, .ref e1, .ref e2, .ref e3, .ref e4])), (e3, .inl (E.2.1 0, 896, .inl f_16)), (e4, .inl (E.2.1 0, 896, .inl (upd c4 (nI ax).toNatClampNeg pd)))] := hD
          obtain ⟨f_17, ef_17⟩ : ∃ g : Nat → Int32, g = upd c4 (nI ax).toNatClampNeg pd := ⟨_, rfl⟩
          rw [← ef_17] at hP hD
          refine lv_iconst (v := 0) hx hb dX3_outdone_56 (by decide) ?_
          have hP9 := hP.sub (ws' := [(h0, .inr (3, [.ref of, .ref e1, .ref e2, .ref e3, .ref e4])), (e3, .inl (E.2.1 0, 896, .inl f_16)), (e4, .inl (E.2.1 0, 896, .inl f_17))]) [0, 1, 2] rfl
          have hD9 := hD.sub (ws' := [(h0, .inr (3, [.ref of, .ref e1, .ref e2, .ref e3, .ref e4])), (e3, .inl (E.2.1 0, 896, .inl f_16)), (e4, .inl (E.2.1 0, 896, .inl f_17))]) [0, 1, 2] (by decide) rfl
          exact W.zret (v := 0) hx hb hr (by decide) (fun t ht hW => ⟨⟨0, (f_16, f_17), rfl, Or.inl rfl, by rw [ht]; exact hP9, hD9⟩, hS.F ht⟩) hS.2.2 dX3_outdone_57
    · refine lv_iconst (v := 1) hx hb dX3_outdone_20 (by decide) ?_
      have hP9 := hP.sub (ws' := [(h0, .inr (3, [.ref of, .ref e1, .ref e2, .ref e3, .ref e4])), (e3, .inl (E.2.1 0, 896, .inl c3)), (e4, .inl (E.2.1 0, 896, .inl c4))]) [0, 1, 2] rfl
      have hD9 := hD.sub (ws' := [(h0, .inr (3, [.ref of, .ref e1, .ref e2, .ref e3, .ref e4])), (e3, .inl (E.2.1 0, 896, .inl c3)), (e4, .inl (E.2.1 0, 896, .inl c4))]) [0, 1, 2] (by decide) rfl
      exact W.zret (v := 1) hx hb hr (by decide) (fun t ht hW => ⟨⟨1, (c3, c4), rfl, Or.inr rfl, by rw [ht]; exact hP9, hD9⟩, hS.F ht⟩) hS.2.2 dX3_outdone_21
set_option maxHeartbeats 4000000 in
set_option maxRecDepth 100000 in
theorem c_X3_keep (l : Launch) (E : vE) (h0 : Nat) (of : Nat) (e1 : Nat) (e2 : Nat) (e3 : Nat) (e4 : Nat) (ax : Nat) (pd : Int32) (od : Int32) (c1 : Nat → Int32) (c2 : Nat → Int32) (sz : Nat) (hax : ax < 512) : Met l yX3_keep wsX3_keep ({ frames := 0, cells := 0, slots := 0, locals := 0 }) (pcW E [.ref h0, .int (nI ax), .int pd, .int od] sz [(h0, .inr (3, [.ref of, .ref e1, .ref e2, .ref e3, .ref e4])), (e1, .inl (E.2.1 0, 512, .inl c1)), (e2, .inl (E.2.1 0, 512, .inl c2))]) (va_Qv (fun (u : (Nat → Int32) × (Nat → Int32)) => match u with | (c12, c22) => True) (fun (u : (Nat → Int32) × (Nat → Int32)) (t : State) => match u with | (c12, c22) => wB E (va_A [(h0, .inr (3, [.ref of, .ref e1, .ref e2, .ref e3, .ref e4])), (e1, .inl (E.2.1 0, 512, .inl c1)), (e2, .inl (E.2.1 0, 512, .inl c2))] sz) [(h0, .inr (3, [.ref of, .ref e1, .ref e2, .ref e3, .ref e4])), (e1, .inl (E.2.1 0, 512, .inl c12)), (e2, .inl (E.2.1 0, 512, .inl c22))] t) (va_A [(h0, .inr (3, [.ref of, .ref e1, .ref e2, .ref e3, .ref e4])), (e1, .inl (E.2.1 0, 512, .inl c1)), (e2, .inl (E.2.1 0, 512, .inl c2))] sz)) 0 0 (va_A [(h0, .inr (3, [.ref of, .ref e1, .ref e2, .ref e3, .ref e4])), (e1, .inl (E.2.1 0, 512, .inl c1)), (e2, .inl (E.2.1 0, 512, .inl c2))] sz) := by
  refine Met.ofW (cc := cX3_keep) (maxL := 4) (ret := none) (by decide) rfl ?_
  intro p e s m args below meth c s₁ B hml hv
  obtain ⟨rfl, hsz, hP, hkn, hD0, hst⟩ := hv
  have hx := B.exec
  have hb := B.bytes
  have hr := B.returns
  have hts := atoms_spec (ws := wsX3_keep) B.pre
  have hown : s.vm.findClass RX3 = some m.cls := findClass_of_methodNamed B.named
  have hlocks := B.notSynchronized
  subst hsz
  have hD := hD0.self (sz := s.heap.size)
  have hK := hkn.1
  have hAO := hkn.2.2.1
  generalize hAe : va_A [(h0, .inr (3, [.ref of, .ref e1, .ref e2, .ref e3, .ref e4])), (e1, .inl (E.2.1 0, 512, .inl c1)), (e2, .inl (E.2.1 0, 512, .inl c2))] s.heap.size = A at hD hst ⊢
  have hA : ∀ q : Nat, s.heap.size ≤ q → A q := fun q h => by rw [← hAe]; exact Or.inr h
  have hS : va_S A s.heap s.heap [] := va_S.rf
  have hP : va_P E.1 vwCl [(h0, .inr (3, [.ref of, .ref e1, .ref e2, .ref e3, .ref e4])), (e1, .inl (E.2.1 0, 512, .inl c1)), (e2, .inl (E.2.1 0, 512, .inl c2))] s.heap := hP
  have hl := lv_entry ([.ref h0, .int (nI ax), .int pd, .int od]) (n := 4) (Nat.le_of_ble_eq_true rfl)
  rw [lg_entry_eq]
  generalize (lg_sl ([.ref h0, .int (nI ax), .int pd, .int od]) ++ List.replicate (4 - (lg_sl ([.ref h0, .int (nI ax), .int pd, .int od])).length) Slot.unset).toArray = ls at hl ⊢
  have hl : lv_has ls 4 [(0, .ref h0), (1, .int (nI ax)), (2, .int pd), (3, .int od)] := hl
  have fl9 := hts (.fieldLink RX3 9 "BoatsHome$Orders" "costs" "[I") (by first | exact List.mem_of_getElem? (i := 1) rfl | decide +kernel)
  have fl15 := hts (.fieldLink RX3 15 "BoatsHome$Orders" "orders" "[I") (by first | exact List.mem_of_getElem? (i := 2) rfl | decide +kernel)
  have inX3 : ∀ w ∈ u_ws RX3 TX3 5, w ∈ wsX3_keep := by first | exact fun w h9 => (List.mem_cons_of_mem _ (List.mem_append_right _ h9)) | decide +kernel
  refine lv_aload_n hx hb dX3_keep_0 rfl (lv_at hl 0 rfl) ?_
  refine va_get (D := E.1) (ci := 3) (v := .ref e1) (C := RX3) (T := TX3) (N := 5) hx hb hts inX3 hown hK hP 0 rfl rfl 1 (by decide) fl9 (fun _ h9 => h9) rfl dX3_keep_1 ?_
  refine lv_iload_n hx hb dX3_keep_4 rfl (lv_at hl 1 rfl) ?_
  have hi_1 : vp_in (nI ax) 512 := vp_in_nI hax (by decide)
  refine va_iald hx hb hK hP 1 0 rfl rfl hi_1 dX3_keep_5 ?_
  refine lv_topi (fun x_2 ex_2 => ?_)
  refine lv_iconst (v := (-1)) hx hb dX3_keep_6 (by decide) ?_
  refine lv_icmp_eq (tgt := 20) hx hb dX3_keep_7 (by decide) (fun c_3 => ?_) (fun c_3 => ?_)
  · refine lv_aload_n hx hb dX3_keep_20 rfl (lv_at hl 0 rfl) ?_
    refine va_get (D := E.1) (ci := 3) (v := .ref e1) (C := RX3) (T := TX3) (N := 5) hx hb hts inX3 hown hK hP 0 rfl rfl 1 (by decide) fl9 (fun _ h9 => h9) rfl dX3_keep_21 ?_
    refine lv_iload_n hx hb dX3_keep_24 rfl (lv_at hl 1 rfl) ?_
    refine lv_iload_n hx hb dX3_keep_25 rfl (lv_at hl 2 rfl) ?_
    refine va_iast hx hb hK hP hD hS 1 0 rfl rfl hi_1 dX3_keep_26 (fun H locs hP hD hS => ?_)
    have hP : va_P E.1 vwCl [(h0, .inr (3, [.ref of, .ref e1, .ref e2, .ref e3, .ref e4])), (e1, .inl (E.2.1 0, 512, .inl (upd c1 (nI ax).toNatClampNeg pd))), (e2, .inl (E.2.1 0, 512, .inl c2))] H := hP
    have hD : va_D A [(h0, .inr (3, [.ref of, .ref e1, .ref e2, .ref e3, .ref e4])), (e1, .inl (E.2.1 0, 512, .inl (upd c1 (nI ax).toNatClampNeg pd))), (e2, .inl (E.2.1 0, 512, .inl c2))] := hD
    obtain ⟨f_4, ef_4⟩ : ∃ g : Nat → Int32, g = upd c1 (nI ax).toNatClampNeg pd := ⟨_, rfl⟩
    rw [← ef_4] at hP hD
    refine lv_aload_n hx hb dX3_keep_27 rfl (lv_at hl 0 rfl) ?_
    refine va_get (D := E.1) (ci := 3) (v := .ref e2) (C := RX3) (T := TX3) (N := 5) hx hb hts inX3 hown hK hP 0 rfl rfl 2 (by decide) fl15 (fun _ h9 => h9) rfl dX3_keep_28 ?_
    refine lv_iload_n hx hb dX3_keep_31 rfl (lv_at hl 1 rfl) ?_
    refine lv_iload_n hx hb dX3_keep_32 rfl (lv_at hl 3 rfl) ?_
    refine va_iast hx hb hK hP hD hS 2 0 rfl rfl hi_1 dX3_keep_33 (fun H locs hP hD hS => ?_)
    have hP : va_P E.1 vwCl [(h0, .inr (3, [.ref of, .ref e1, .ref e2, .ref e3, .ref e4])), (e1, .inl (E.2.1 0, 512, .inl f_4)), (e2, .inl (E.2.1 0, 512, .inl (upd c2 (nI ax).toNatClampNeg od)))] H := hP
    have hD : va_D A [(h0, .inr (3, [.ref of, .ref e1, .ref e2, .ref e3, .ref e4])), (e1, .inl (E.2.1 0, 512, .inl f_4)), (e2, .inl (E.2.1 0, 512, .inl (upd c2 (nI ax).toNatClampNeg od)))] := hD
    obtain ⟨f_5, ef_5⟩ : ∃ g : Nat → Int32, g = upd c2 (nI ax).toNatClampNeg od := ⟨_, rfl⟩
    rw [← ef_5] at hP hD
    have hP9 := hP.sub (ws' := [(h0, .inr (3, [.ref of, .ref e1, .ref e2, .ref e3, .ref e4])), (e1, .inl (E.2.1 0, 512, .inl f_4)), (e2, .inl (E.2.1 0, 512, .inl f_5))]) [0, 1, 2] rfl
    have hD9 := hD.sub (ws' := [(h0, .inr (3, [.ref of, .ref e1, .ref e2, .ref e3, .ref e4])), (e1, .inl (E.2.1 0, 512, .inl f_4)), (e2, .inl (E.2.1 0, 512, .inl f_5))]) [0, 1, 2] (by decide) rfl
    exact W.vret hx hb hr (fun t ht hW => ⟨⟨(f_4, f_5), rfl, trivial, by rw [ht]; exact hP9, hD9⟩, hS.F ht⟩) hS.2.2 dX3_keep_34
  · refine lv_iload_n hx hb dX3_keep_10 rfl (lv_at hl 2 rfl) ?_
    refine lv_aload_n hx hb dX3_keep_11 rfl (lv_at hl 0 rfl) ?_
    refine va_get (D := E.1) (ci := 3) (v := .ref e1) (C := RX3) (T := TX3) (N := 5) hx hb hts inX3 hown hK hP 0 rfl rfl 1 (by decide) fl9 (fun _ h9 => h9) rfl dX3_keep_12 ?_
    refine lv_iload_n hx hb dX3_keep_15 rfl (lv_at hl 1 rfl) ?_
    refine va_iald hx hb hK hP 1 0 rfl rfl hi_1 dX3_keep_16 ?_
    refine lv_topi (fun x_6 ex_6 => ?_)
    refine lv_icmp_ge (tgt := 34) hx hb dX3_keep_17 (by decide) (fun c_7 => ?_) (fun c_7 => ?_)
    · have hP9 := hP.sub (ws' := [(h0, .inr (3, [.ref of, .ref e1, .ref e2, .ref e3, .ref e4])), (e1, .inl (E.2.1 0, 512, .inl c1)), (e2, .inl (E.2.1 0, 512, .inl c2))]) [0, 1, 2] rfl
      have hD9 := hD.sub (ws' := [(h0, .inr (3, [.ref of, .ref e1, .ref e2, .ref e3, .ref e4])), (e1, .inl (E.2.1 0, 512, .inl c1)), (e2, .inl (E.2.1 0, 512, .inl c2))]) [0, 1, 2] (by decide) rfl
      exact W.vret hx hb hr (fun t ht hW => ⟨⟨(c1, c2), rfl, trivial, by rw [ht]; exact hP9, hD9⟩, hS.F ht⟩) hS.2.2 dX3_keep_34
    · refine lv_aload_n hx hb dX3_keep_20 rfl (lv_at hl 0 rfl) ?_
      refine va_get (D := E.1) (ci := 3) (v := .ref e1) (C := RX3) (T := TX3) (N := 5) hx hb hts inX3 hown hK hP 0 rfl rfl 1 (by decide) fl9 (fun _ h9 => h9) rfl dX3_keep_21 ?_
      refine lv_iload_n hx hb dX3_keep_24 rfl (lv_at hl 1 rfl) ?_
      refine lv_iload_n hx hb dX3_keep_25 rfl (lv_at hl 2 rfl) ?_
      refine va_iast hx hb hK hP hD hS 1 0 rfl rfl hi_1 dX3_keep_26 (fun H locs hP hD hS => ?_)
      have hP : va_P E.1 vwCl [(h0, .inr (3, [.ref of, .ref e1, .ref e2, .ref e3, .ref e4])), (e1, .inl (E.2.1 0, 512, .inl (upd c1 (nI ax).toNatClampNeg pd))), (e2, .inl (E.2.1 0, 512, .inl c2))] H := hP
      have hD : va_D A [(h0, .inr (3, [.ref of, .ref e1, .ref e2, .ref e3, .ref e4])), (e1, .inl (E.2.1 0, 512, .inl (upd c1 (nI ax).toNatClampNeg pd))), (e2, .inl (E.2.1 0, 512, .inl c2))] := hD
      obtain ⟨f_8, ef_8⟩ : ∃ g : Nat → Int32, g = upd c1 (nI ax).toNatClampNeg pd := ⟨_, rfl⟩
      rw [← ef_8] at hP hD
      refine lv_aload_n hx hb dX3_keep_27 rfl (lv_at hl 0 rfl) ?_
      refine va_get (D := E.1) (ci := 3) (v := .ref e2) (C := RX3) (T := TX3) (N := 5) hx hb hts inX3 hown hK hP 0 rfl rfl 2 (by decide) fl15 (fun _ h9 => h9) rfl dX3_keep_28 ?_
      refine lv_iload_n hx hb dX3_keep_31 rfl (lv_at hl 1 rfl) ?_
      refine lv_iload_n hx hb dX3_keep_32 rfl (lv_at hl 3 rfl) ?_
      refine va_iast hx hb hK hP hD hS 2 0 rfl rfl hi_1 dX3_keep_33 (fun H locs hP hD hS => ?_)
      have hP : va_P E.1 vwCl [(h0, .inr (3, [.ref of, .ref e1, .ref e2, .ref e3, .ref e4])), (e1, .inl (E.2.1 0, 512, .inl f_8)), (e2, .inl (E.2.1 0, 512, .inl (upd c2 (nI ax).toNatClampNeg od)))] H := hP
      have hD : va_D A [(h0, .inr (3, [.ref of, .ref e1, .ref e2, .ref e3, .ref e4])), (e1, .inl (E.2.1 0, 512, .inl f_8)), (e2, .inl (E.2.1 0, 512, .inl (upd c2 (nI ax).toNatClampNeg od)))] := hD
      obtain ⟨f_9, ef_9⟩ : ∃ g : Nat → Int32, g = upd c2 (nI ax).toNatClampNeg od := ⟨_, rfl⟩
      rw [← ef_9] at hP hD
      have hP9 := hP.sub (ws' := [(h0, .inr (3, [.ref of, .ref e1, .ref e2, .ref e3, .ref e4])), (e1, .inl (E.2.1 0, 512, .inl f_8)), (e2, .inl (E.2.1 0, 512, .inl f_9))]) [0, 1, 2] rfl
      have hD9 := hD.sub (ws' := [(h0, .inr (3, [.ref of, .ref e1, .ref e2, .ref e3, .ref e4])), (e1, .inl (E.2.1 0, 512, .inl f_8)), (e2, .inl (E.2.1 0, 512, .inl f_9))]) [0, 1, 2] (by decide) rfl
      exact W.vret hx hb hr (fun t ht hW => ⟨⟨(f_8, f_9), rfl, trivial, by rw [ht]; exact hP9, hD9⟩, hS.F ht⟩) hS.2.2 dX3_keep_34
set_option maxHeartbeats 4000000 in
set_option maxRecDepth 100000 in
theorem c_X3_extend7 (l : Launch) (E : vE) (h0 : Nat) (of : Nat) (e1 : Nat) (e2 : Nat) (e3 : Nat) (e4 : Nat) (g1 : Nat) (g2 : Nat) (g3 : Nat) (g4 : Nat) (g5 : Nat) (g6 : Nat) (g7 : Nat) (g8 : Nat) (on : Nat) (d1 : Nat → Int32) (d2 : Nat → Int32) (d3 : Nat → Int32) (d4 : Nat → Int32) (d5 : Nat → Int32) (d8 : Nat → Int32) (cr : Nat) (se_ : Nat) (po_ : Int32) (da : Int32) (co_ : Int32) (or_ : Int32) (c1 : Nat → Int32) (c2 : Nat → Int32) (c3 : Nat → Int32) (c4 : Nat → Int32) (sz : Nat) (hcr : cr < 4) (hse : se_ < 128) (hd1 : ∀ k, k < 7 → inR (d1 k) 0 9 = true) : Met l yX3_extend wsX3_extend ({ frames := 3, cells := 0, slots := 0, locals := 68 }) (pcW E [.ref h0, .int (nI cr), .int 7, .int (nI se_), .int po_, .int da, .int co_, .int or_] sz [(h0, .inr (3, [.ref of, .ref e1, .ref e2, .ref e3, .ref e4])), (of, .inr (2, [.ref g1, .ref g2, .ref g3, .ref g4, .ref g5, .int (nI on), .ref g6, .ref g7, .ref g8])), (g1, .inl (E.2.1 0, 7, .inl d1)), (g2, .inl (E.2.1 0, 7, .inl d2)), (g3, .inl (E.2.1 0, 7, .inl d3)), (g4, .inl (E.2.1 0, 7, .inl d4)), (g5, .inl (E.2.1 0, 7, .inl d5)), (g8, .inl (E.2.1 0, 100, .inl d8)), (e1, .inl (E.2.1 0, 512, .inl c1)), (e2, .inl (E.2.1 0, 512, .inl c2)), (e3, .inl (E.2.1 0, 896, .inl c3)), (e4, .inl (E.2.1 0, 896, .inl c4))]) (va_Qv (fun (u : (Nat → Int32) × (Nat → Int32) × (Nat → Int32) × (Nat → Int32)) => match u with | (c12, c22, c32, c42) => True) (fun (u : (Nat → Int32) × (Nat → Int32) × (Nat → Int32) × (Nat → Int32)) (t : State) => match u with | (c12, c22, c32, c42) => wB E (va_A [(h0, .inr (3, [.ref of, .ref e1, .ref e2, .ref e3, .ref e4])), (of, .inr (2, [.ref g1, .ref g2, .ref g3, .ref g4, .ref g5, .int (nI on), .ref g6, .ref g7, .ref g8])), (g1, .inl (E.2.1 0, 7, .inl d1)), (g2, .inl (E.2.1 0, 7, .inl d2)), (g3, .inl (E.2.1 0, 7, .inl d3)), (g4, .inl (E.2.1 0, 7, .inl d4)), (g5, .inl (E.2.1 0, 7, .inl d5)), (g8, .inl (E.2.1 0, 100, .inl d8)), (e1, .inl (E.2.1 0, 512, .inl c1)), (e2, .inl (E.2.1 0, 512, .inl c2)), (e3, .inl (E.2.1 0, 896, .inl c3)), (e4, .inl (E.2.1 0, 896, .inl c4))] sz) [(h0, .inr (3, [.ref of, .ref e1, .ref e2, .ref e3, .ref e4])), (of, .inr (2, [.ref g1, .ref g2, .ref g3, .ref g4, .ref g5, .int (nI on), .ref g6, .ref g7, .ref g8])), (g1, .inl (E.2.1 0, 7, .inl d1)), (g2, .inl (E.2.1 0, 7, .inl d2)), (g3, .inl (E.2.1 0, 7, .inl d3)), (g4, .inl (E.2.1 0, 7, .inl d4)), (g5, .inl (E.2.1 0, 7, .inl d5)), (g8, .inl (E.2.1 0, 100, .inl d8)), (e1, .inl (E.2.1 0, 512, .inl c12)), (e2, .inl (E.2.1 0, 512, .inl c22)), (e3, .inl (E.2.1 0, 896, .inl c32)), (e4, .inl (E.2.1 0, 896, .inl c42))] t) (va_A [(h0, .inr (3, [.ref of, .ref e1, .ref e2, .ref e3, .ref e4])), (of, .inr (2, [.ref g1, .ref g2, .ref g3, .ref g4, .ref g5, .int (nI on), .ref g6, .ref g7, .ref g8])), (g1, .inl (E.2.1 0, 7, .inl d1)), (g2, .inl (E.2.1 0, 7, .inl d2)), (g3, .inl (E.2.1 0, 7, .inl d3)), (g4, .inl (E.2.1 0, 7, .inl d4)), (g5, .inl (E.2.1 0, 7, .inl d5)), (g8, .inl (E.2.1 0, 100, .inl d8)), (e1, .inl (E.2.1 0, 512, .inl c1)), (e2, .inl (E.2.1 0, 512, .inl c2)), (e3, .inl (E.2.1 0, 896, .inl c3)), (e4, .inl (E.2.1 0, 896, .inl c4))] sz)) 0 0 (va_A [(h0, .inr (3, [.ref of, .ref e1, .ref e2, .ref e3, .ref e4])), (of, .inr (2, [.ref g1, .ref g2, .ref g3, .ref g4, .ref g5, .int (nI on), .ref g6, .ref g7, .ref g8])), (g1, .inl (E.2.1 0, 7, .inl d1)), (g2, .inl (E.2.1 0, 7, .inl d2)), (g3, .inl (E.2.1 0, 7, .inl d3)), (g4, .inl (E.2.1 0, 7, .inl d4)), (g5, .inl (E.2.1 0, 7, .inl d5)), (g8, .inl (E.2.1 0, 100, .inl d8)), (e1, .inl (E.2.1 0, 512, .inl c1)), (e2, .inl (E.2.1 0, 512, .inl c2)), (e3, .inl (E.2.1 0, 896, .inl c3)), (e4, .inl (E.2.1 0, 896, .inl c4))] sz) := by
  refine Met.ofW (cc := cX3_extend) (maxL := 13) (ret := none) (by decide) rfl ?_
  intro p e s m args below meth c s₁ B hml hv
  obtain ⟨rfl, hsz, hP, hkn, hD0, hst⟩ := hv
  have hx := B.exec
  have hb := B.bytes
  have hr := B.returns
  have hts := atoms_spec (ws := wsX3_extend) B.pre
  have hown : s.vm.findClass RX3 = some m.cls := findClass_of_methodNamed B.named
  have hlocks := B.notSynchronized
  subst hsz
  have hD := hD0.self (sz := s.heap.size)
  have hK := hkn.1
  have hAO := hkn.2.2.1
  generalize hAe : va_A [(h0, .inr (3, [.ref of, .ref e1, .ref e2, .ref e3, .ref e4])), (of, .inr (2, [.ref g1, .ref g2, .ref g3, .ref g4, .ref g5, .int (nI on), .ref g6, .ref g7, .ref g8])), (g1, .inl (E.2.1 0, 7, .inl d1)), (g2, .inl (E.2.1 0, 7, .inl d2)), (g3, .inl (E.2.1 0, 7, .inl d3)), (g4, .inl (E.2.1 0, 7, .inl d4)), (g5, .inl (E.2.1 0, 7, .inl d5)), (g8, .inl (E.2.1 0, 100, .inl d8)), (e1, .inl (E.2.1 0, 512, .inl c1)), (e2, .inl (E.2.1 0, 512, .inl c2)), (e3, .inl (E.2.1 0, 896, .inl c3)), (e4, .inl (E.2.1 0, 896, .inl c4))] s.heap.size = A at hD hst ⊢
  have hA : ∀ q : Nat, s.heap.size ≤ q → A q := fun q h => by rw [← hAe]; exact Or.inr h
  have hS : va_S A s.heap s.heap [] := va_S.rf
  have hP : va_P E.1 vwCl [(h0, .inr (3, [.ref of, .ref e1, .ref e2, .ref e3, .ref e4])), (of, .inr (2, [.ref g1, .ref g2, .ref g3, .ref g4, .ref g5, .int (nI on), .ref g6, .ref g7, .ref g8])), (g1, .inl (E.2.1 0, 7, .inl d1)), (g2, .inl (E.2.1 0, 7, .inl d2)), (g3, .inl (E.2.1 0, 7, .inl d3)), (g4, .inl (E.2.1 0, 7, .inl d4)), (g5, .inl (E.2.1 0, 7, .inl d5)), (g8, .inl (E.2.1 0, 100, .inl d8)), (e1, .inl (E.2.1 0, 512, .inl c1)), (e2, .inl (E.2.1 0, 512, .inl c2)), (e3, .inl (E.2.1 0, 896, .inl c3)), (e4, .inl (E.2.1 0, 896, .inl c4))] s.heap := hP
  have hl := lv_entry ([.ref h0, .int (nI cr), .int 7, .int (nI se_), .int po_, .int da, .int co_, .int or_]) (n := 13) (Nat.le_of_ble_eq_true rfl)
  rw [lg_entry_eq]
  generalize (lg_sl ([.ref h0, .int (nI cr), .int 7, .int (nI se_), .int po_, .int da, .int co_, .int or_]) ++ List.replicate (13 - (lg_sl ([.ref h0, .int (nI cr), .int 7, .int (nI se_), .int po_, .int da, .int co_, .int or_])).length) Slot.unset).toArray = ls at hl ⊢
  have hl : lv_has ls 13 [(0, .ref h0), (1, .int (nI cr)), (2, .int 7), (3, .int (nI se_)), (4, .int po_), (5, .int da), (6, .int co_), (7, .int or_)] := hl
  have fl24 := hts (.fieldLink RX3 24 "BoatsHome$Orders" "offers" "LBoatsHome$Offers;") (by first | exact List.mem_of_getElem? (i := 1) rfl | decide +kernel)
  have fl47 := hts (.fieldLink RX3 47 "BoatsHome$Offers" "size" "I") (by first | exact List.mem_of_getElem? (i := 2) rfl | decide +kernel)
  have fl55 := hts (.fieldLink RX3 55 "BoatsHome$Offers" "days" "[I") (by first | exact List.mem_of_getElem? (i := 3) rfl | decide +kernel)
  have fl70 := hts (.fieldLink RX3 70 "BoatsHome$Offers" "to" "[I") (by first | exact List.mem_of_getElem? (i := 4) rfl | decide +kernel)
  have inX2 : ∀ w ∈ u_ws RX2 TX2 9, w ∈ wsX3_extend := by first | exact fun w h9 => (List.mem_cons_of_mem _ (List.mem_append_right _ h9)) | decide +kernel
  have inX3 : ∀ w ∈ u_ws RX3 TX3 5, w ∈ wsX3_extend := by first | exact fun w h9 => (List.mem_cons_of_mem _ (List.mem_append_left _ (List.mem_append_right _ h9))) | decide +kernel
  refine lv_iload_n hx hb dX3_extend_0 rfl (lv_at hl 2 rfl) ?_
  refine lv_bipush (v := 7) hx hb dX3_extend_1 (by decide) ?_
  refine lv_icmp_lt (tgt := 7) hx hb dX3_extend_3 (by decide) (fun c9 => absurd c9 (by decide)) (fun _ => ?_)
  have hP9 := hP.sub (ws' := [(h0, .inr (3, [.ref of, .ref e1, .ref e2, .ref e3, .ref e4])), (of, .inr (2, [.ref g1, .ref g2, .ref g3, .ref g4, .ref g5, .int (nI on), .ref g6, .ref g7, .ref g8])), (g1, .inl (E.2.1 0, 7, .inl d1)), (g2, .inl (E.2.1 0, 7, .inl d2)), (g3, .inl (E.2.1 0, 7, .inl d3)), (g4, .inl (E.2.1 0, 7, .inl d4)), (g5, .inl (E.2.1 0, 7, .inl d5)), (g8, .inl (E.2.1 0, 100, .inl d8)), (e1, .inl (E.2.1 0, 512, .inl c1)), (e2, .inl (E.2.1 0, 512, .inl c2)), (e3, .inl (E.2.1 0, 896, .inl c3)), (e4, .inl (E.2.1 0, 896, .inl c4))]) [0, 1, 2, 3, 4, 5, 6, 7, 8, 9, 10, 11] rfl
  have hD9 := hD.sub (ws' := [(h0, .inr (3, [.ref of, .ref e1, .ref e2, .ref e3, .ref e4])), (of, .inr (2, [.ref g1, .ref g2, .ref g3, .ref g4, .ref g5, .int (nI on), .ref g6, .ref g7, .ref g8])), (g1, .inl (E.2.1 0, 7, .inl d1)), (g2, .inl (E.2.1 0, 7, .inl d2)), (g3, .inl (E.2.1 0, 7, .inl d3)), (g4, .inl (E.2.1 0, 7, .inl d4)), (g5, .inl (E.2.1 0, 7, .inl d5)), (g8, .inl (E.2.1 0, 100, .inl d8)), (e1, .inl (E.2.1 0, 512, .inl c1)), (e2, .inl (E.2.1 0, 512, .inl c2)), (e3, .inl (E.2.1 0, 896, .inl c3)), (e4, .inl (E.2.1 0, 896, .inl c4))]) [0, 1, 2, 3, 4, 5, 6, 7, 8, 9, 10, 11] (by decide) rfl
  exact W.vret hx hb hr (fun t ht hW => ⟨⟨(c1, c2, c3, c4), rfl, trivial, by rw [ht]; exact hP9, hD9⟩, hS.F ht⟩) hS.2.2 dX3_extend_6
set_option maxHeartbeats 4000000 in
set_option maxRecDepth 100000 in
theorem lg_extend6 {p : Program} {l : Launch} {e : Env} {s : State} {m : MethodId} {args : Array Value} {below : List Frame} {meth : Method} {c : Code} {Q : State → Prop} {A : Nat → Prop} (E : vE) (h0 : Nat) (of : Nat) (e1 : Nat) (e2 : Nat) (e3 : Nat) (e4 : Nat) (g1 : Nat) (g2 : Nat) (g3 : Nat) (g4 : Nat) (g5 : Nat) (g6 : Nat) (g7 : Nat) (g8 : Nat) (on : Nat) (d1 : Nat → Int32) (d2 : Nat → Int32) (d3 : Nat → Int32) (d4 : Nat → Int32) (d5 : Nat → Int32) (d8 : Nat → Int32) (cr : Nat) (se_ : Nat) (po_ : Int32) (da : Int32) (co_ : Int32) (or_ : Int32) (hx : p.tables.exec = Jvm.exec) (hb : c.code = cX3_extend) (hml : c.maxLocals = 13) (hown : s.vm.findClass RX3 = some m.cls) (hts : ∀ w ∈ wsX3_extend, w.before args s = true) (hkn : kn E s) (hst : st E A s s.heap) (hA : ∀ q : Nat, s.heap.size ≤ q → A q) (hcr : cr < 4) (hse : se_ < 128) (hd1 : ∀ k, k < 7 → inR (d1 k) 0 9 = true) (kk : ∀ (c1 : Nat → Int32) (c2 : Nat → Int32) (c3 : Nat → Int32) (c4 : Nat → Int32) (H : Heap) (locs : List Loc) (ls : Array Slot), va_P E.1 vwCl [(h0, .inr (3, [.ref of, .ref e1, .ref e2, .ref e3, .ref e4])), (of, .inr (2, [.ref g1, .ref g2, .ref g3, .ref g4, .ref g5, .int (nI on), .ref g6, .ref g7, .ref g8])), (g1, .inl (E.2.1 0, 7, .inl d1)), (g2, .inl (E.2.1 0, 7, .inl d2)), (g3, .inl (E.2.1 0, 7, .inl d3)), (g4, .inl (E.2.1 0, 7, .inl d4)), (g5, .inl (E.2.1 0, 7, .inl d5)), (g8, .inl (E.2.1 0, 100, .inl d8)), (e1, .inl (E.2.1 0, 512, .inl c1)), (e2, .inl (E.2.1 0, 512, .inl c2)), (e3, .inl (E.2.1 0, 896, .inl c3)), (e4, .inl (E.2.1 0, 896, .inl c4))] H → va_D A [(h0, .inr (3, [.ref of, .ref e1, .ref e2, .ref e3, .ref e4])), (of, .inr (2, [.ref g1, .ref g2, .ref g3, .ref g4, .ref g5, .int (nI on), .ref g6, .ref g7, .ref g8])), (g1, .inl (E.2.1 0, 7, .inl d1)), (g2, .inl (E.2.1 0, 7, .inl d2)), (g3, .inl (E.2.1 0, 7, .inl d3)), (g4, .inl (E.2.1 0, 7, .inl d4)), (g5, .inl (E.2.1 0, 7, .inl d5)), (g8, .inl (E.2.1 0, 100, .inl d8)), (e1, .inl (E.2.1 0, 512, .inl c1)), (e2, .inl (E.2.1 0, 512, .inl c2)), (e3, .inl (E.2.1 0, 896, .inl c3)), (e4, .inl (E.2.1 0, 896, .inl c4))] → va_S A s.heap H locs → lv_has ls 13 [(0, .ref h0)] → W p l e ({ frames := 4, cells := 0, slots := 0, locals := 100 }) s m args below meth c H locs 0 0 Q (F0 m 185 ls [])) : ∀ (n0 : Nat) (k : Nat) (c1 : Nat → Int32) (c2 : Nat → Int32) (c3 : Nat → Int32) (c4 : Nat → Int32) (H : Heap) (locs : List Loc) (ls : Array Slot), 7 - k < n0 → (k ≤ 7) → va_P E.1 vwCl [(h0, .inr (3, [.ref of, .ref e1, .ref e2, .ref e3, .ref e4])), (of, .inr (2, [.ref g1, .ref g2, .ref g3, .ref g4, .ref g5, .int (nI on), .ref g6, .ref g7, .ref g8])), (g1, .inl (E.2.1 0, 7, .inl d1)), (g2, .inl (E.2.1 0, 7, .inl d2)), (g3, .inl (E.2.1 0, 7, .inl d3)), (g4, .inl (E.2.1 0, 7, .inl d4)), (g5, .inl (E.2.1 0, 7, .inl d5)), (g8, .inl (E.2.1 0, 100, .inl d8)), (e1, .inl (E.2.1 0, 512, .inl c1)), (e2, .inl (E.2.1 0, 512, .inl c2)), (e3, .inl (E.2.1 0, 896, .inl c3)), (e4, .inl (E.2.1 0, 896, .inl c4))] H → va_D A [(h0, .inr (3, [.ref of, .ref e1, .ref e2, .ref e3, .ref e4])), (of, .inr (2, [.ref g1, .ref g2, .ref g3, .ref g4, .ref g5, .int (nI on), .ref g6, .ref g7, .ref g8])), (g1, .inl (E.2.1 0, 7, .inl d1)), (g2, .inl (E.2.1 0, 7, .inl d2)), (g3, .inl (E.2.1 0, 7, .inl d3)), (g4, .inl (E.2.1 0, 7, .inl d4)), (g5, .inl (E.2.1 0, 7, .inl d5)), (g8, .inl (E.2.1 0, 100, .inl d8)), (e1, .inl (E.2.1 0, 512, .inl c1)), (e2, .inl (E.2.1 0, 512, .inl c2)), (e3, .inl (E.2.1 0, 896, .inl c3)), (e4, .inl (E.2.1 0, 896, .inl c4))] → va_S A s.heap H locs → lv_has ls 13 [(0, .ref h0), (1, .int (nI cr)), (2, .int 6), (3, .int (nI se_)), (4, .int po_), (5, .int da), (6, .int co_), (7, .int or_), (8, .int (nI k))] → W p l e ({ frames := 4, cells := 0, slots := 0, locals := 100 }) s m args below meth c H locs 0 0 Q (F0 m 10 ls []) := by
  have hK := hkn.1
  have hAO := hkn.2.2.1
  have fl24 := hts (.fieldLink RX3 24 "BoatsHome$Orders" "offers" "LBoatsHome$Offers;") (by first | exact List.mem_of_getElem? (i := 1) rfl | decide +kernel)
  have fl47 := hts (.fieldLink RX3 47 "BoatsHome$Offers" "size" "I") (by first | exact List.mem_of_getElem? (i := 2) rfl | decide +kernel)
  have fl55 := hts (.fieldLink RX3 55 "BoatsHome$Offers" "days" "[I") (by first | exact List.mem_of_getElem? (i := 3) rfl | decide +kernel)
  have fl70 := hts (.fieldLink RX3 70 "BoatsHome$Offers" "to" "[I") (by first | exact List.mem_of_getElem? (i := 4) rfl | decide +kernel)
  have inX2 : ∀ w ∈ u_ws RX2 TX2 9, w ∈ wsX3_extend := by first | exact fun w h9 => (List.mem_cons_of_mem _ (List.mem_append_right _ h9)) | decide +kernel
  have inX3 : ∀ w ∈ u_ws RX3 TX3 5, w ∈ wsX3_extend := by first | exact fun w h9 => (List.mem_cons_of_mem _ (List.mem_append_left _ (List.mem_append_right _ h9))) | decide +kernel
  intro n0
  induction n0 with
  | zero =>
    intro k c1 c2 c3 c4 H locs ls hn0
    exact absurd hn0 (Nat.not_lt_zero _)
  | succ n0 ih =>
    intro k c1 c2 c3 c4 H locs ls hn0 hk hP hD hS hl
    refine lv_iload hx hb dX3_extend_10 (lv_at hl 8 rfl) ?_
    refine lv_aload_n hx hb dX3_extend_12 rfl (lv_at hl 0 rfl) ?_
    refine va_get (D := E.1) (ci := 3) (v := .ref of) (C := RX3) (T := TX3) (N := 5) hx hb hts inX3 hown hK hP 0 rfl rfl 0 (by decide) fl24 (fun _ h9 => h9) rfl dX3_extend_13 ?_
    refine va_get (D := E.1) (ci := 2) (v := .int (nI on)) (C := RX2) (T := TX2) (N := 9) hx hb hts inX2 hown hK hP 1 rfl rfl 5 (by decide) fl47 (fun _ h9 => h9) rfl dX3_extend_16 ?_
    refine lv_icmp_ge (tgt := 185) hx hb dX3_extend_19 (by decide) (fun c_1 => ?_) (fun c_1 => ?_)
    · exact kk c1 c2 c3 c4 _ _ _  (hP.sub [0, 1, 2, 3, 4, 5, 6, 7, 8, 9, 10, 11] rfl) (hD.sub [0, 1, 2, 3, 4, 5, 6, 7, 8, 9, 10, 11] (by decide) rfl) hS (lv_sub hl [0] rfl)
    · refine lv_iload hx hb dX3_extend_22 (lv_at hl 8 rfl) ?_
      refine lv_bipush (v := 7) hx hb dX3_extend_24 (by decide) ?_
      refine lv_icmp_ge (tgt := 185) hx hb dX3_extend_26 (by decide) (fun c_2 => ?_) (fun c_2 => ?_)
      · exact kk c1 c2 c3 c4 _ _ _  (hP.sub [0, 1, 2, 3, 4, 5, 6, 7, 8, 9, 10, 11] rfl) (hD.sub [0, 1, 2, 3, 4, 5, 6, 7, 8, 9, 10, 11] (by decide) rfl) hS (lv_sub hl [0] rfl)
      · have hlt : k < 7 := by
          rcases Nat.lt_or_ge k 7 with q | q
          · exact q
          · exact absurd (show (7 : Int32) ≤ nI k from nI_le (a := 7) q (by omega)) c_2
        refine lv_iload_n hx hb dX3_extend_29 rfl (lv_at hl 3 rfl) ?_
        refine lv_iload hx hb dX3_extend_30 (lv_at hl 8 rfl) ?_
        refine lv_ishr hx hb dX3_extend_32 ?_
        refine lv_topi (fun x_3 ex_3 => ?_)
        refine lv_iconst (v := 1) hx hb dX3_extend_33 (by decide) ?_
        refine lv_iand hx hb dX3_extend_34 ?_
        refine lv_topi (fun x_4 ex_4 => ?_)
        refine lv_if_eq (tgt := 42) hx hb dX3_extend_35 (by decide) (fun c_5 => ?_) (fun c_5 => ?_)
        · refine lv_aload_n hx hb dX3_extend_42 rfl (lv_at hl 0 rfl) ?_
          refine va_get (D := E.1) (ci := 3) (v := .ref of) (C := RX3) (T := TX3) (N := 5) hx hb hts inX3 hown hK hP 0 rfl rfl 0 (by decide) fl24 (fun _ h9 => h9) rfl dX3_extend_43 ?_
          refine lv_iload hx hb dX3_extend_46 (lv_at hl 8 rfl) ?_
          refine lv_iload hx hb dX3_extend_48 (lv_at hl 4 rfl) ?_
          refine lv_iload hx hb dX3_extend_50 (lv_at hl 5 rfl) ?_
          have hPc := hP.sub (ws' := [(of, .inr (2, [.ref g1, .ref g2, .ref g3, .ref g4, .ref g5, .int (nI on), .ref g6, .ref g7, .ref g8])), (g1, .inl (E.2.1 0, 7, .inl d1)), (g4, .inl (E.2.1 0, 7, .inl d4)), (g5, .inl (E.2.1 0, 7, .inl d5)), (g8, .inl (E.2.1 0, 100, .inl d8))]) [1, 2, 5, 6, 7] rfl
          have hDc := hD.sub (ws' := [(of, .inr (2, [.ref g1, .ref g2, .ref g3, .ref g4, .ref g5, .int (nI on), .ref g6, .ref g7, .ref g8])), (g1, .inl (E.2.1 0, 7, .inl d1)), (g4, .inl (E.2.1 0, 7, .inl d4)), (g5, .inl (E.2.1 0, 7, .inl d5)), (g8, .inl (E.2.1 0, 100, .inl d8))]) [1, 2, 5, 6, 7] (by decide) rfl
          have hFc := va_free (wc := [(of, .inr (2, [.ref g1, .ref g2, .ref g3, .ref g4, .ref g5, .int (nI on), .ref g6, .ref g7, .ref g8])), (g1, .inl (E.2.1 0, 7, .inl d1)), (g4, .inl (E.2.1 0, 7, .inl d4)), (g5, .inl (E.2.1 0, 7, .inl d5)), (g8, .inl (E.2.1 0, 100, .inl d8))]) hD hS hA [1, 2, 5, 6, 7] rfl
          refine va_calli (va_runV (As := [.int (nI k), .int po_, .int da]) (rest := []) ⟨hx, hb, hml, hown, hts⟩ (c_X2_startOf l E of g1 g2 g3 g4 g5 g6 g7 g8 on d1 d4 d5 d8 k po_ da H.size hlt hd1) (cwV 3 hts gX3_extend_X2_startOf rfl rfl rfl hdV_X2_startOf ⟨Nat.le_of_ble_eq_true rfl, Nat.le_of_ble_eq_true rfl⟩) ⟨pcW_blind, va_recv hK hPc (ci := 2) (q0 := 0) rfl rfl, (pcW_pre hPc hkn hDc hst hS hFc)⟩ rfl rfl hl.1 rfl (lv_room (Nat.le_of_ble_eq_true rfl)) dX3_extend_52 ⟨Nat.le_of_ble_eq_true rfl, Nat.le_of_ble_eq_true rfl⟩) hS (fun q _ h => hFc q h) hFc (fun r_6 u t H1 locs ht hvm hw_7 hB hz1 hk1 hS => ?_)
          obtain ⟨hP1, hD1⟩ := hB
          rw [ht] at hP1
          try dsimp only at hw_7
          obtain ⟨hP, hD⟩ := va_join (wr := [(h0, .inr (3, [.ref of, .ref e1, .ref e2, .ref e3, .ref e4])), (g2, .inl (E.2.1 0, 7, .inl d2)), (g3, .inl (E.2.1 0, 7, .inl d3)), (e1, .inl (E.2.1 0, 512, .inl c1)), (e2, .inl (E.2.1 0, 512, .inl c2)), (e3, .inl (E.2.1 0, 896, .inl c3)), (e4, .inl (E.2.1 0, 896, .inl c4))]) (w1 := [(of, .inr (2, [.ref g1, .ref g2, .ref g3, .ref g4, .ref g5, .int (nI on), .ref g6, .ref g7, .ref g8])), (g1, .inl (E.2.1 0, 7, .inl d1)), (g4, .inl (E.2.1 0, 7, .inl d4)), (g5, .inl (E.2.1 0, 7, .inl d5)), (g8, .inl (E.2.1 0, 100, .inl d8))]) hP hD [1, 2, 5, 6, 7] [0, 3, 4, 8, 9, 10, 11] rfl rfl (by decide) (by decide) hk1 hFc hP1 hD1
          generalize H1 = H at hP hS ⊢
          have hP : va_P E.1 vwCl [(h0, .inr (3, [.ref of, .ref e1, .ref e2, .ref e3, .ref e4])), (g2, .inl (E.2.1 0, 7, .inl d2)), (g3, .inl (E.2.1 0, 7, .inl d3)), (e1, .inl (E.2.1 0, 512, .inl c1)), (e2, .inl (E.2.1 0, 512, .inl c2)), (e3, .inl (E.2.1 0, 896, .inl c3)), (e4, .inl (E.2.1 0, 896, .inl c4)), (of, .inr (2, [.ref g1, .ref g2, .ref g3, .ref g4, .ref g5, .int (nI on), .ref g6, .ref g7, .ref g8])), (g1, .inl (E.2.1 0, 7, .inl d1)), (g4, .inl (E.2.1 0, 7, .inl d4)), (g5, .inl (E.2.1 0, 7, .inl d5)), (g8, .inl (E.2.1 0, 100, .inl d8))] H := hP
          have hD : va_D A [(h0, .inr (3, [.ref of, .ref e1, .ref e2, .ref e3, .ref e4])), (g2, .inl (E.2.1 0, 7, .inl d2)), (g3, .inl (E.2.1 0, 7, .inl d3)), (e1, .inl (E.2.1 0, 512, .inl c1)), (e2, .inl (E.2.1 0, 512, .inl c2)), (e3, .inl (E.2.1 0, 896, .inl c3)), (e4, .inl (E.2.1 0, 896, .inl c4)), (of, .inr (2, [.ref g1, .ref g2, .ref g3, .ref g4, .ref g5, .int (nI on), .ref g6, .ref g7, .ref g8])), (g1, .inl (E.2.1 0, 7, .inl d1)), (g4, .inl (E.2.1 0, 7, .inl d4)), (g5, .inl (E.2.1 0, 7, .inl d5)), (g8, .inl (E.2.1 0, 100, .inl d8))] := hD
          refine lv_istore (lv' := [(9, .int r_6), (0, .ref h0), (1, .int (nI cr)), (2, .int 6), (3, .int (nI se_)), (4, .int po_), (5, .int da), (6, .int co_), (7, .int or_), (8, .int (nI k))]) hx hb dX3_extend_55 hl (by decide) rfl (fun ls hl => ?_)
          refine lv_iload hx hb dX3_extend_57 (lv_at hl 0 rfl) ?_
          refine lv_iconst (v := (-1)) hx hb dX3_extend_59 (by decide) ?_
          refine lv_icmp_eq (tgt := 179) hx hb dX3_extend_60 (by decide) (fun c_8 => ?_) (fun c_8 => ?_)
          · refine lv_iinc (v := (nI (k + 1))) (lv' := [(8, .int (nI (k + 1))), (9, .int r_6), (0, .ref h0), (1, .int (nI cr)), (2, .int 6), (3, .int (nI se_)), (4, .int po_), (5, .int da), (6, .int co_), (7, .int or_)]) hx hb dX3_extend_179 hl (k := 9) rfl (show nI k + 1 = nI (k + 1) from nI_1 k) (by decide) rfl (fun ls hl => ?_)
            refine lv_goto (tgt := 10) hx hb dX3_extend_182 (by decide) ?_
            exact ih (k + 1) c1 c2 c3 c4 _ _ _ (by omega) (by omega) (hP.sub [0, 7, 8, 1, 2, 9, 10, 11, 3, 4, 5, 6] rfl) (hD.sub [0, 7, 8, 1, 2, 9, 10, 11, 3, 4, 5, 6] (by decide) rfl) hS (lv_sub hl [2, 3, 4, 5, 6, 7, 8, 9, 0] rfl)
          · refine lv_iload hx hb dX3_extend_63 (lv_at hl 0 rfl) ?_
            refine lv_aload_n hx hb dX3_extend_65 rfl (lv_at hl 1 rfl) ?_
            refine va_get (D := E.1) (ci := 3) (v := .ref of) (C := RX3) (T := TX3) (N := 5) hx hb hts inX3 hown hK hP 0 rfl rfl 0 (by decide) fl24 (fun _ h9 => h9) rfl dX3_extend_66 ?_
            refine va_get (D := E.1) (ci := 2) (v := .ref g3) (C := RX2) (T := TX2) (N := 9) hx hb hts inX2 hown hK hP 7 rfl rfl 2 (by decide) fl55 (fun _ h9 => h9) rfl dX3_extend_69 ?_
            refine lv_iload hx hb dX3_extend_72 (lv_at hl 9 rfl) ?_
            have hi_9 : vp_in (nI k) 7 := vp_in_nI hlt (by decide)
            refine va_iald hx hb hK hP 2 0 rfl rfl hi_9 dX3_extend_74 ?_
            refine lv_topi (fun x_10 ex_10 => ?_)
            refine lv_iadd hx hb dX3_extend_75 ?_
            refine lv_topi (fun x_11 ex_11 => ?_)
            refine lv_istore (lv' := [(10, .int x_11), (9, .int r_6), (0, .ref h0), (1, .int (nI cr)), (2, .int 6), (3, .int (nI se_)), (4, .int po_), (5, .int da), (6, .int co_), (7, .int or_), (8, .int (nI k))]) hx hb dX3_extend_76 hl (by decide) rfl (fun ls hl => ?_)
            refine lv_iload hx hb dX3_extend_78 (lv_at hl 8 rfl) ?_
            refine lv_aload_n hx hb dX3_extend_80 rfl (lv_at hl 2 rfl) ?_
            refine va_get (D := E.1) (ci := 3) (v := .ref of) (C := RX3) (T := TX3) (N := 5) hx hb hts inX3 hown hK hP 0 rfl rfl 0 (by decide) fl24 (fun _ h9 => h9) rfl dX3_extend_81 ?_
            refine lv_iload hx hb dX3_extend_84 (lv_at hl 10 rfl) ?_
            refine lv_iload hx hb dX3_extend_86 (lv_at hl 6 rfl) ?_
            have hPc := hP.sub (ws' := [(of, .inr (2, [.ref g1, .ref g2, .ref g3, .ref g4, .ref g5, .int (nI on), .ref g6, .ref g7, .ref g8])), (g1, .inl (E.2.1 0, 7, .inl d1)), (g8, .inl (E.2.1 0, 100, .inl d8))]) [7, 8, 11] rfl
            have hDc := hD.sub (ws' := [(of, .inr (2, [.ref g1, .ref g2, .ref g3, .ref g4, .ref g5, .int (nI on), .ref g6, .ref g7, .ref g8])), (g1, .inl (E.2.1 0, 7, .inl d1)), (g8, .inl (E.2.1 0, 100, .inl d8))]) [7, 8, 11] (by decide) rfl
            have hFc := va_free (wc := [(of, .inr (2, [.ref g1, .ref g2, .ref g3, .ref g4, .ref g5, .int (nI on), .ref g6, .ref g7, .ref g8])), (g1, .inl (E.2.1 0, 7, .inl d1)), (g8, .inl (E.2.1 0, 100, .inl d8))]) hD hS hA [7, 8, 11] rfl
            refine va_calli (va_runV (As := [.int (nI k), .int po_]) (rest := [.int co_]) ⟨hx, hb, hml, hown, hts⟩ (c_X2_fareTo l E of g1 g2 g3 g4 g5 g6 g7 g8 on d1 d8 k po_ H.size hlt hd1) (cwV 2 hts gX3_extend_X2_fareTo rfl rfl rfl hdV_X2_fareTo ⟨Nat.le_of_ble_eq_true rfl, Nat.le_of_ble_eq_true rfl⟩) ⟨pcW_blind, va_recv hK hPc (ci := 2) (q0 := 0) rfl rfl, (pcW_pre hPc hkn hDc hst hS hFc)⟩ rfl rfl hl.1 rfl (lv_room (Nat.le_of_ble_eq_true rfl)) dX3_extend_88 ⟨Nat.le_of_ble_eq_true rfl, Nat.le_of_ble_eq_true rfl⟩) hS (fun q _ h => hFc q h) hFc (fun r_12 u t H1 locs ht hvm hw_13 hB hz1 hk1 hS => ?_)
            obtain ⟨hP1, hD1⟩ := hB
            rw [ht] at hP1
            try dsimp only at hw_13
            obtain ⟨hP, hD⟩ := va_join (wr := [(h0, .inr (3, [.ref of, .ref e1, .ref e2, .ref e3, .ref e4])), (g2, .inl (E.2.1 0, 7, .inl d2)), (g3, .inl (E.2.1 0, 7, .inl d3)), (e1, .inl (E.2.1 0, 512, .inl c1)), (e2, .inl (E.2.1 0, 512, .inl c2)), (e3, .inl (E.2.1 0, 896, .inl c3)), (e4, .inl (E.2.1 0, 896, .inl c4)), (g4, .inl (E.2.1 0, 7, .inl d4)), (g5, .inl (E.2.1 0, 7, .inl d5))]) (w1 := [(of, .inr (2, [.ref g1, .ref g2, .ref g3, .ref g4, .ref g5, .int (nI on), .ref g6, .ref g7, .ref g8])), (g1, .inl (E.2.1 0, 7, .inl d1)), (g8, .inl (E.2.1 0, 100, .inl d8))]) hP hD [7, 8, 11] [0, 1, 2, 3, 4, 5, 6, 9, 10] rfl rfl (by decide) (by decide) hk1 hFc hP1 hD1
            generalize H1 = H at hP hS ⊢
            have hP : va_P E.1 vwCl [(h0, .inr (3, [.ref of, .ref e1, .ref e2, .ref e3, .ref e4])), (g2, .inl (E.2.1 0, 7, .inl d2)), (g3, .inl (E.2.1 0, 7, .inl d3)), (e1, .inl (E.2.1 0, 512, .inl c1)), (e2, .inl (E.2.1 0, 512, .inl c2)), (e3, .inl (E.2.1 0, 896, .inl c3)), (e4, .inl (E.2.1 0, 896, .inl c4)), (g4, .inl (E.2.1 0, 7, .inl d4)), (g5, .inl (E.2.1 0, 7, .inl d5)), (of, .inr (2, [.ref g1, .ref g2, .ref g3, .ref g4, .ref g5, .int (nI on), .ref g6, .ref g7, .ref g8])), (g1, .inl (E.2.1 0, 7, .inl d1)), (g8, .inl (E.2.1 0, 100, .inl d8))] H := hP
            have hD : va_D A [(h0, .inr (3, [.ref of, .ref e1, .ref e2, .ref e3, .ref e4])), (g2, .inl (E.2.1 0, 7, .inl d2)), (g3, .inl (E.2.1 0, 7, .inl d3)), (e1, .inl (E.2.1 0, 512, .inl c1)), (e2, .inl (E.2.1 0, 512, .inl c2)), (e3, .inl (E.2.1 0, 896, .inl c3)), (e4, .inl (E.2.1 0, 896, .inl c4)), (g4, .inl (E.2.1 0, 7, .inl d4)), (g5, .inl (E.2.1 0, 7, .inl d5)), (of, .inr (2, [.ref g1, .ref g2, .ref g3, .ref g4, .ref g5, .int (nI on), .ref g6, .ref g7, .ref g8])), (g1, .inl (E.2.1 0, 7, .inl d1)), (g8, .inl (E.2.1 0, 100, .inl d8))] := hD
            refine lv_iadd hx hb dX3_extend_91 ?_
            refine lv_topi (fun x_14 ex_14 => ?_)
            refine lv_istore (lv' := [(11, .int x_14), (10, .int x_11), (9, .int r_6), (0, .ref h0), (1, .int (nI cr)), (2, .int 6), (3, .int (nI se_)), (4, .int po_), (5, .int da), (6, .int co_), (7, .int or_), (8, .int (nI k))]) hx hb dX3_extend_92 hl (by decide) rfl (fun ls hl => ?_)
            refine lv_iload_n hx hb dX3_extend_94 rfl (lv_at hl 6 rfl) ?_
            refine lv_iconst (v := 1) hx hb dX3_extend_95 (by decide) ?_
            refine lv_iload hx hb dX3_extend_96 (lv_at hl 11 rfl) ?_
            refine lv_ishl hx hb dX3_extend_98 ?_
            refine lv_topi (fun x_15 ex_15 => ?_)
            refine lv_ior hx hb dX3_extend_99 ?_
            refine lv_topi (fun x_16 ex_16 => ?_)
            obtain ⟨w_17, hwd_18, ew_19⟩ : ∃ w, w < 128 ∧ x_16 = nI w := by rw [ex_16, ex_15]; exact or_bit hse hlt
            subst ew_19
            refine lv_istore (lv' := [(12, .int (nI w_17)), (11, .int x_14), (10, .int x_11), (9, .int r_6), (0, .ref h0), (1, .int (nI cr)), (2, .int 6), (3, .int (nI se_)), (4, .int po_), (5, .int da), (6, .int co_), (7, .int or_), (8, .int (nI k))]) hx hb dX3_extend_100 hl (by decide) rfl (fun ls hl => ?_)
            refine lv_aload_n hx hb dX3_extend_102 rfl (lv_at hl 4 rfl) ?_
            refine lv_iload hx hb dX3_extend_103 (lv_at hl 0 rfl) ?_
            refine lv_bipush (v := 7) hx hb dX3_extend_105 (by decide) ?_
            refine lv_imul hx hb dX3_extend_107 ?_
            refine lv_topi (fun x_20 ex_20 => ?_)
            obtain rfl : x_20 = nI (w_17 * 7) := ex_20.trans (pk_mul w_17 7)
            refine lv_iload hx hb dX3_extend_108 (lv_at hl 12 rfl) ?_
            refine lv_iadd hx hb dX3_extend_110 ?_
            refine lv_topi (fun x_21 ex_21 => ?_)
            obtain rfl : x_21 = nI ((w_17 * 7) + k) := ex_21.trans (nI_add (w_17 * 7) k)
            refine lv_iload hx hb dX3_extend_111 (lv_at hl 2 rfl) ?_
            refine lv_iload hx hb dX3_extend_113 (lv_at hl 1 rfl) ?_
            have hPc := hP.sub (ws' := [(h0, .inr (3, [.ref of, .ref e1, .ref e2, .ref e3, .ref e4])), (e3, .inl (E.2.1 0, 896, .inl c3)), (e4, .inl (E.2.1 0, 896, .inl c4))]) [0, 5, 6] rfl
            have hDc := hD.sub (ws' := [(h0, .inr (3, [.ref of, .ref e1, .ref e2, .ref e3, .ref e4])), (e3, .inl (E.2.1 0, 896, .inl c3)), (e4, .inl (E.2.1 0, 896, .inl c4))]) [0, 5, 6] (by decide) rfl
            have hFc := va_free (wc := [(h0, .inr (3, [.ref of, .ref e1, .ref e2, .ref e3, .ref e4])), (e3, .inl (E.2.1 0, 896, .inl c3)), (e4, .inl (E.2.1 0, 896, .inl c4))]) hD hS hA [0, 5, 6] rfl
            refine va_calli (va_runV (As := [.int (nI ((w_17 * 7) + k)), .int x_11, .int x_14]) (rest := []) ⟨hx, hb, hml, hown, hts⟩ (c_X3_outdone l E h0 of e1 e2 e3 e4 ((w_17 * 7) + k) x_11 x_14 c3 c4 H.size (by omega)) (cwV 3 hts gX3_extend_X3_outdone rfl rfl rfl hdV_X3_outdone ⟨Nat.le_of_ble_eq_true rfl, Nat.le_of_ble_eq_true rfl⟩) ⟨pcW_blind, va_recv hK hPc (ci := 3) (q0 := 0) rfl rfl, (pcW_pre hPc hkn hDc hst hS hFc)⟩ rfl rfl hl.1 rfl (lv_room (Nat.le_of_ble_eq_true rfl)) dX3_extend_115 ⟨Nat.le_of_ble_eq_true rfl, Nat.le_of_ble_eq_true rfl⟩) hS (fun q _ h => hFc q h) hFc (fun r_22 u t H1 locs ht hvm hw_23 hB hz1 hk1 hS => ?_)
            obtain ⟨u_24, u_25⟩ := u
            obtain ⟨hP1, hD1⟩ := hB
            rw [ht] at hP1
            try dsimp only at hw_23
            obtain ⟨hP, hD⟩ := va_join (wr := [(g2, .inl (E.2.1 0, 7, .inl d2)), (g3, .inl (E.2.1 0, 7, .inl d3)), (e1, .inl (E.2.1 0, 512, .inl c1)), (e2, .inl (E.2.1 0, 512, .inl c2)), (g4, .inl (E.2.1 0, 7, .inl d4)), (g5, .inl (E.2.1 0, 7, .inl d5)), (of, .inr (2, [.ref g1, .ref g2, .ref g3, .ref g4, .ref g5, .int (nI on), .ref g6, .ref g7, .ref g8])), (g1, .inl (E.2.1 0, 7, .inl d1)), (g8, .inl (E.2.1 0, 100, .inl d8))]) (w1 := [(h0, .inr (3, [.ref of, .ref e1, .ref e2, .ref e3, .ref e4])), (e3, .inl (E.2.1 0, 896, .inl u_24)), (e4, .inl (E.2.1 0, 896, .inl u_25))]) hP hD [0, 5, 6] [1, 2, 3, 4, 7, 8, 9, 10, 11] rfl rfl (by decide) (by decide) hk1 hFc hP1 hD1
            generalize H1 = H at hP hS ⊢
            have hP : va_P E.1 vwCl [(g2, .inl (E.2.1 0, 7, .inl d2)), (g3, .inl (E.2.1 0, 7, .inl d3)), (e1, .inl (E.2.1 0, 512, .inl c1)), (e2, .inl (E.2.1 0, 512, .inl c2)), (g4, .inl (E.2.1 0, 7, .inl d4)), (g5, .inl (E.2.1 0, 7, .inl d5)), (of, .inr (2, [.ref g1, .ref g2, .ref g3, .ref g4, .ref g5, .int (nI on), .ref g6, .ref g7, .ref g8])), (g1, .inl (E.2.1 0, 7, .inl d1)), (g8, .inl (E.2.1 0, 100, .inl d8)), (h0, .inr (3, [.ref of, .ref e1, .ref e2, .ref e3, .ref e4])), (e3, .inl (E.2.1 0, 896, .inl u_24)), (e4, .inl (E.2.1 0, 896, .inl u_25))] H := hP
            have hD : va_D A [(g2, .inl (E.2.1 0, 7, .inl d2)), (g3, .inl (E.2.1 0, 7, .inl d3)), (e1, .inl (E.2.1 0, 512, .inl c1)), (e2, .inl (E.2.1 0, 512, .inl c2)), (g4, .inl (E.2.1 0, 7, .inl d4)), (g5, .inl (E.2.1 0, 7, .inl d5)), (of, .inr (2, [.ref g1, .ref g2, .ref g3, .ref g4, .ref g5, .int (nI on), .ref g6, .ref g7, .ref g8])), (g1, .inl (E.2.1 0, 7, .inl d1)), (g8, .inl (E.2.1 0, 100, .inl d8)), (h0, .inr (3, [.ref of, .ref e1, .ref e2, .ref e3, .ref e4])), (e3, .inl (E.2.1 0, 896, .inl u_24)), (e4, .inl (E.2.1 0, 896, .inl u_25))] := hD
            refine lv_if_ne (tgt := 179) hx hb dX3_extend_118 (by decide) (fun c_26 => ?_) (fun c_26 => ?_)
            · refine lv_iinc (v := (nI (k + 1))) (lv' := [(8, .int (nI (k + 1))), (12, .int (nI w_17)), (11, .int x_14), (10, .int x_11), (9, .int r_6), (0, .ref h0), (1, .int (nI cr)), (2, .int 6), (3, .int (nI se_)), (4, .int po_), (5, .int da), (6, .int co_), (7, .int or_)]) hx hb dX3_extend_179 hl (k := 12) rfl (show nI k + 1 = nI (k + 1) from nI_1 k) (by decide) rfl (fun ls hl => ?_)
              refine lv_goto (tgt := 10) hx hb dX3_extend_182 (by decide) ?_
              exact ih (k + 1) c1 c2 u_24 u_25 _ _ _ (by omega) (by omega) (hP.sub [9, 6, 7, 0, 1, 4, 5, 8, 2, 3, 10, 11] rfl) (hD.sub [9, 6, 7, 0, 1, 4, 5, 8, 2, 3, 10, 11] (by decide) rfl) hS (lv_sub hl [5, 6, 7, 8, 9, 10, 11, 12, 0] rfl)
            · refine lv_aload_n hx hb dX3_extend_121 rfl (lv_at hl 4 rfl) ?_
              refine lv_iload_n hx hb dX3_extend_122 rfl (lv_at hl 5 rfl) ?_
              refine lv_sipush (v := 128) hx hb dX3_extend_123 (by decide) ?_
              refine lv_imul hx hb dX3_extend_126 ?_
              refine lv_topi (fun x_27 ex_27 => ?_)
              obtain rfl : x_27 = nI (cr * 128) := ex_27.trans (pk_mul cr 128)
              refine lv_iload hx hb dX3_extend_127 (lv_at hl 0 rfl) ?_
              refine lv_iadd hx hb dX3_extend_129 ?_
              refine lv_topi (fun x_28 ex_28 => ?_)
              obtain rfl : x_28 = nI ((cr * 128) + w_17) := ex_28.trans (nI_add (cr * 128) w_17)
              refine lv_iload hx hb dX3_extend_130 (lv_at hl 1 rfl) ?_
              refine lv_iload hx hb dX3_extend_132 (lv_at hl 11 rfl) ?_
              refine lv_bipush (v := 8) hx hb dX3_extend_134 (by decide) ?_
              refine lv_imul hx hb dX3_extend_136 ?_
              refine lv_topi (fun x_29 ex_29 => ?_)
              refine lv_iload hx hb dX3_extend_137 (lv_at hl 12 rfl) ?_
              refine lv_iadd hx hb dX3_extend_139 ?_
              refine lv_topi (fun x_30 ex_30 => ?_)
              refine lv_iconst (v := 1) hx hb dX3_extend_140 (by decide) ?_
              refine lv_iadd hx hb dX3_extend_141 ?_
              refine lv_topi (fun x_31 ex_31 => ?_)
              have hPc := hP.sub (ws' := [(h0, .inr (3, [.ref of, .ref e1, .ref e2, .ref e3, .ref e4])), (e1, .inl (E.2.1 0, 512, .inl c1)), (e2, .inl (E.2.1 0, 512, .inl c2))]) [9, 2, 3] rfl
              have hDc := hD.sub (ws' := [(h0, .inr (3, [.ref of, .ref e1, .ref e2, .ref e3, .ref e4])), (e1, .inl (E.2.1 0, 512, .inl c1)), (e2, .inl (E.2.1 0, 512, .inl c2))]) [9, 2, 3] (by decide) rfl
              have hFc := va_free (wc := [(h0, .inr (3, [.ref of, .ref e1, .ref e2, .ref e3, .ref e4])), (e1, .inl (E.2.1 0, 512, .inl c1)), (e2, .inl (E.2.1 0, 512, .inl c2))]) hD hS hA [9, 2, 3] rfl
              refine va_callv (va_runV (As := [.int (nI ((cr * 128) + w_17)), .int x_14, .int x_31]) (rest := []) ⟨hx, hb, hml, hown, hts⟩ (c_X3_keep l E h0 of e1 e2 e3 e4 ((cr * 128) + w_17) x_14 x_31 c1 c2 H.size (by omega)) (cwV 3 hts gX3_extend_X3_keep rfl rfl rfl hdV_X3_keep ⟨Nat.le_of_ble_eq_true rfl, Nat.le_of_ble_eq_true rfl⟩) ⟨pcW_blind, va_recv hK hPc (ci := 3) (q0 := 0) rfl rfl, (pcW_pre hPc hkn hDc hst hS hFc)⟩ rfl rfl hl.1 rfl (lv_room (Nat.le_of_ble_eq_true rfl)) dX3_extend_142 ⟨Nat.le_of_ble_eq_true rfl, Nat.le_of_ble_eq_true rfl⟩) hS (fun q _ h => hFc q h) hFc (fun u t H1 locs ht hvm hw_33 hB hz1 hk1 hS => ?_)
              obtain ⟨u_34, u_35⟩ := u
              obtain ⟨hP1, hD1⟩ := hB
              rw [ht] at hP1
              try dsimp only at hw_33
              obtain ⟨hP, hD⟩ := va_join (wr := [(g2, .inl (E.2.1 0, 7, .inl d2)), (g3, .inl (E.2.1 0, 7, .inl d3)), (g4, .inl (E.2.1 0, 7, .inl d4)), (g5, .inl (E.2.1 0, 7, .inl d5)), (of, .inr (2, [.ref g1, .ref g2, .ref g3, .ref g4, .ref g5, .int (nI on), .ref g6, .ref g7, .ref g8])), (g1, .inl (E.2.1 0, 7, .inl d1)), (g8, .inl (E.2.1 0, 100, .inl d8)), (e3, .inl (E.2.1 0, 896, .inl u_24)), (e4, .inl (E.2.1 0, 896, .inl u_25))]) (w1 := [(h0, .inr (3, [.ref of, .ref e1, .ref e2, .ref e3, .ref e4])), (e1, .inl (E.2.1 0, 512, .inl u_34)), (e2, .inl (E.2.1 0, 512, .inl u_35))]) hP hD [9, 2, 3] [0, 1, 4, 5, 6, 7, 8, 10, 11] rfl rfl (by decide) (by decide) hk1 hFc hP1 hD1
              generalize H1 = H at hP hS ⊢
              have hP : va_P E.1 vwCl [(g2, .inl (E.2.1 0, 7, .inl d2)), (g3, .inl (E.2.1 0, 7, .inl d3)), (g4, .inl (E.2.1 0, 7, .inl d4)), (g5, .inl (E.2.1 0, 7, .inl d5)), (of, .inr (2, [.ref g1, .ref g2, .ref g3, .ref g4, .ref g5, .int (nI on), .ref g6, .ref g7, .ref g8])), (g1, .inl (E.2.1 0, 7, .inl d1)), (g8, .inl (E.2.1 0, 100, .inl d8)), (e3, .inl (E.2.1 0, 896, .inl u_24)), (e4, .inl (E.2.1 0, 896, .inl u_25)), (h0, .inr (3, [.ref of, .ref e1, .ref e2, .ref e3, .ref e4])), (e1, .inl (E.2.1 0, 512, .inl u_34)), (e2, .inl (E.2.1 0, 512, .inl u_35))] H := hP
              have hD : va_D A [(g2, .inl (E.2.1 0, 7, .inl d2)), (g3, .inl (E.2.1 0, 7, .inl d3)), (g4, .inl (E.2.1 0, 7, .inl d4)), (g5, .inl (E.2.1 0, 7, .inl d5)), (of, .inr (2, [.ref g1, .ref g2, .ref g3, .ref g4, .ref g5, .int (nI on), .ref g6, .ref g7, .ref g8])), (g1, .inl (E.2.1 0, 7, .inl d1)), (g8, .inl (E.2.1 0, 100, .inl d8)), (e3, .inl (E.2.1 0, 896, .inl u_24)), (e4, .inl (E.2.1 0, 896, .inl u_25)), (h0, .inr (3, [.ref of, .ref e1, .ref e2, .ref e3, .ref e4])), (e1, .inl (E.2.1 0, 512, .inl u_34)), (e2, .inl (E.2.1 0, 512, .inl u_35))] := hD
              refine lv_aload_n hx hb dX3_extend_145 rfl (lv_at hl 4 rfl) ?_
              refine lv_iload_n hx hb dX3_extend_146 rfl (lv_at hl 5 rfl) ?_
              refine lv_iload_n hx hb dX3_extend_147 rfl (lv_at hl 6 rfl) ?_
              refine lv_iconst (v := 1) hx hb dX3_extend_148 (by decide) ?_
              refine lv_iadd hx hb dX3_extend_149 ?_
              refine lv_topi (fun x_36 ex_36 => ?_)
              obtain rfl : x_36 = 7 := ex_36.trans (by decide +kernel)
              refine lv_iload hx hb dX3_extend_150 (lv_at hl 0 rfl) ?_
              refine lv_aload_n hx hb dX3_extend_152 rfl (lv_at hl 4 rfl) ?_
              refine va_get (D := E.1) (ci := 3) (v := .ref of) (C := RX3) (T := TX3) (N := 5) hx hb hts inX3 hown hK hP 9 rfl rfl 0 (by decide) fl24 (fun _ h9 => h9) rfl dX3_extend_153 ?_
              refine va_get (D := E.1) (ci := 2) (v := .ref g2) (C := RX2) (T := TX2) (N := 9) hx hb hts inX2 hown hK hP 4 rfl rfl 1 (by decide) fl70 (fun _ h9 => h9) rfl dX3_extend_156 ?_
              refine lv_iload hx hb dX3_extend_159 (lv_at hl 12 rfl) ?_
              refine va_iald hx hb hK hP 0 0 rfl rfl hi_9 dX3_extend_161 ?_
              refine lv_topi (fun x_37 ex_37 => ?_)
              refine lv_iload hx hb dX3_extend_162 (lv_at hl 2 rfl) ?_
              refine lv_iload hx hb dX3_extend_164 (lv_at hl 1 rfl) ?_
              refine lv_iload hx hb dX3_extend_166 (lv_at hl 11 rfl) ?_
              refine lv_bipush (v := 8) hx hb dX3_extend_168 (by decide) ?_
              refine lv_imul hx hb dX3_extend_170 ?_
              refine lv_topi (fun x_38 ex_38 => ?_)
              refine lv_iload hx hb dX3_extend_171 (lv_at hl 12 rfl) ?_
              refine lv_iadd hx hb dX3_extend_173 ?_
              refine lv_topi (fun x_39 ex_39 => ?_)
              refine lv_iconst (v := 1) hx hb dX3_extend_174 (by decide) ?_
              refine lv_iadd hx hb dX3_extend_175 ?_
              refine lv_topi (fun x_40 ex_40 => ?_)
              have hPc := hP.sub (ws' := [(h0, .inr (3, [.ref of, .ref e1, .ref e2, .ref e3, .ref e4])), (of, .inr (2, [.ref g1, .ref g2, .ref g3, .ref g4, .ref g5, .int (nI on), .ref g6, .ref g7, .ref g8])), (g1, .inl (E.2.1 0, 7, .inl d1)), (g2, .inl (E.2.1 0, 7, .inl d2)), (g3, .inl (E.2.1 0, 7, .inl d3)), (g4, .inl (E.2.1 0, 7, .inl d4)), (g5, .inl (E.2.1 0, 7, .inl d5)), (g8, .inl (E.2.1 0, 100, .inl d8)), (e1, .inl (E.2.1 0, 512, .inl u_34)), (e2, .inl (E.2.1 0, 512, .inl u_35)), (e3, .inl (E.2.1 0, 896, .inl u_24)), (e4, .inl (E.2.1 0, 896, .inl u_25))]) [9, 4, 5, 0, 1, 2, 3, 6, 10, 11, 7, 8] rfl
              have hDc := hD.sub (ws' := [(h0, .inr (3, [.ref of, .ref e1, .ref e2, .ref e3, .ref e4])), (of, .inr (2, [.ref g1, .ref g2, .ref g3, .ref g4, .ref g5, .int (nI on), .ref g6, .ref g7, .ref g8])), (g1, .inl (E.2.1 0, 7, .inl d1)), (g2, .inl (E.2.1 0, 7, .inl d2)), (g3, .inl (E.2.1 0, 7, .inl d3)), (g4, .inl (E.2.1 0, 7, .inl d4)), (g5, .inl (E.2.1 0, 7, .inl d5)), (g8, .inl (E.2.1 0, 100, .inl d8)), (e1, .inl (E.2.1 0, 512, .inl u_34)), (e2, .inl (E.2.1 0, 512, .inl u_35)), (e3, .inl (E.2.1 0, 896, .inl u_24)), (e4, .inl (E.2.1 0, 896, .inl u_25))]) [9, 4, 5, 0, 1, 2, 3, 6, 10, 11, 7, 8] (by decide) rfl
              have hFc := va_free (wc := [(h0, .inr (3, [.ref of, .ref e1, .ref e2, .ref e3, .ref e4])), (of, .inr (2, [.ref g1, .ref g2, .ref g3, .ref g4, .ref g5, .int (nI on), .ref g6, .ref g7, .ref g8])), (g1, .inl (E.2.1 0, 7, .inl d1)), (g2, .inl (E.2.1 0, 7, .inl d2)), (g3, .inl (E.2.1 0, 7, .inl d3)), (g4, .inl (E.2.1 0, 7, .inl d4)), (g5, .inl (E.2.1 0, 7, .inl d5)), (g8, .inl (E.2.1 0, 100, .inl d8)), (e1, .inl (E.2.1 0, 512, .inl u_34)), (e2, .inl (E.2.1 0, 512, .inl u_35)), (e3, .inl (E.2.1 0, 896, .inl u_24)), (e4, .inl (E.2.1 0, 896, .inl u_25))]) hD hS hA [9, 4, 5, 0, 1, 2, 3, 6, 10, 11, 7, 8] rfl
              refine va_callv (va_runV (As := [.int (nI cr), .int 7, .int (nI w_17), .int x_37, .int x_11, .int x_14, .int x_40]) (rest := []) ⟨hx, hb, hml, hown, hts⟩ (c_X3_extend7 l E h0 of e1 e2 e3 e4 g1 g2 g3 g4 g5 g6 g7 g8 on d1 d2 d3 d4 d5 d8 cr w_17 x_37 x_11 x_14 x_40 u_34 u_35 u_24 u_25 H.size hcr hwd_18 hd1) (cwV 7 hts gX3_extend_X3_extend rfl rfl rfl hdV_X3_extend ⟨Nat.le_of_ble_eq_true rfl, Nat.le_of_ble_eq_true rfl⟩) ⟨pcW_blind, va_recv hK hPc (ci := 3) (q0 := 0) rfl rfl, (pcW_pre hPc hkn hDc hst hS hFc)⟩ rfl rfl hl.1 rfl (lv_room (Nat.le_of_ble_eq_true rfl)) dX3_extend_176 ⟨Nat.le_of_ble_eq_true rfl, Nat.le_of_ble_eq_true rfl⟩) hS (fun q _ h => hFc q h) hFc (fun u t H1 locs ht hvm hw_42 hB hz1 hk1 hS => ?_)
              obtain ⟨u_43, u_44, u_45, u_46⟩ := u
              obtain ⟨hP1, hD1⟩ := hB
              rw [ht] at hP1
              try dsimp only at hw_42
              obtain ⟨hP, hD⟩ := va_join (wr := []) (w1 := [(h0, .inr (3, [.ref of, .ref e1, .ref e2, .ref e3, .ref e4])), (of, .inr (2, [.ref g1, .ref g2, .ref g3, .ref g4, .ref g5, .int (nI on), .ref g6, .ref g7, .ref g8])), (g1, .inl (E.2.1 0, 7, .inl d1)), (g2, .inl (E.2.1 0, 7, .inl d2)), (g3, .inl (E.2.1 0, 7, .inl d3)), (g4, .inl (E.2.1 0, 7, .inl d4)), (g5, .inl (E.2.1 0, 7, .inl d5)), (g8, .inl (E.2.1 0, 100, .inl d8)), (e1, .inl (E.2.1 0, 512, .inl u_43)), (e2, .inl (E.2.1 0, 512, .inl u_44)), (e3, .inl (E.2.1 0, 896, .inl u_45)), (e4, .inl (E.2.1 0, 896, .inl u_46))]) hP hD [9, 4, 5, 0, 1, 2, 3, 6, 10, 11, 7, 8] [] rfl rfl (by decide) (by decide) hk1 hFc hP1 hD1
              generalize H1 = H at hP hS ⊢
              have hP : va_P E.1 vwCl [(h0, .inr (3, [.ref of, .ref e1, .ref e2, .ref e3, .ref e4])), (of, .inr (2, [.ref g1, .ref g2, .ref g3, .ref g4, .ref g5, .int (nI on), .ref g6, .ref g7, .ref g8])), (g1, .inl (E.2.1 0, 7, .inl d1)), (g2, .inl (E.2.1 0, 7, .inl d2)), (g3, .inl (E.2.1 0, 7, .inl d3)), (g4, .inl (E.2.1 0, 7, .inl d4)), (g5, .inl (E.2.1 0, 7, .inl d5)), (g8, .inl (E.2.1 0, 100, .inl d8)), (e1, .inl (E.2.1 0, 512, .inl u_43)), (e2, .inl (E.2.1 0, 512, .inl u_44)), (e3, .inl (E.2.1 0, 896, .inl u_45)), (e4, .inl (E.2.1 0, 896, .inl u_46))] H := hP
              have hD : va_D A [(h0, .inr (3, [.ref of, .ref e1, .ref e2, .ref e3, .ref e4])), (of, .inr (2, [.ref g1, .ref g2, .ref g3, .ref g4, .ref g5, .int (nI on), .ref g6, .ref g7, .ref g8])), (g1, .inl (E.2.1 0, 7, .inl d1)), (g2, .inl (E.2.1 0, 7, .inl d2)), (g3, .inl (E.2.1 0, 7, .inl d3)), (g4, .inl (E.2.1 0, 7, .inl d4)), (g5, .inl (E.2.1 0, 7, .inl d5)), (g8, .inl (E.2.1 0, 100, .inl d8)), (e1, .inl (E.2.1 0, 512, .inl u_43)), (e2, .inl (E.2.1 0, 512, .inl u_44)), (e3, .inl (E.2.1 0, 896, .inl u_45)), (e4, .inl (E.2.1 0, 896, .inl u_46))] := hD
              refine lv_iinc (v := (nI (k + 1))) (lv' := [(8, .int (nI (k + 1))), (12, .int (nI w_17)), (11, .int x_14), (10, .int x_11), (9, .int r_6), (0, .ref h0), (1, .int (nI cr)), (2, .int 6), (3, .int (nI se_)), (4, .int po_), (5, .int da), (6, .int co_), (7, .int or_)]) hx hb dX3_extend_179 hl (k := 12) rfl (show nI k + 1 = nI (k + 1) from nI_1 k) (by decide) rfl (fun ls hl => ?_)
              refine lv_goto (tgt := 10) hx hb dX3_extend_182 (by decide) ?_
              exact ih (k + 1) u_43 u_44 u_45 u_46 _ _ _ (by omega) (by omega) (hP.sub [0, 1, 2, 3, 4, 5, 6, 7, 8, 9, 10, 11] rfl) (hD.sub [0, 1, 2, 3, 4, 5, 6, 7, 8, 9, 10, 11] (by decide) rfl) hS (lv_sub hl [5, 6, 7, 8, 9, 10, 11, 12, 0] rfl)
        · refine lv_iconst (v := (-1)) hx hb dX3_extend_38 (by decide) ?_
          refine lv_goto (tgt := 55) hx hb dX3_extend_39 (by decide) ?_
          refine lv_istore (lv' := [(9, .int (-1)), (0, .ref h0), (1, .int (nI cr)), (2, .int 6), (3, .int (nI se_)), (4, .int po_), (5, .int da), (6, .int co_), (7, .int or_), (8, .int (nI k))]) hx hb dX3_extend_55 hl (by decide) rfl (fun ls hl => ?_)
          refine lv_iload hx hb dX3_extend_57 (lv_at hl 0 rfl) ?_
          refine lv_iconst (v := (-1)) hx hb dX3_extend_59 (by decide) ?_
          refine lv_icmp_eq (tgt := 179) hx hb dX3_extend_60 (by decide) (fun _ => ?_) (fun c9 => absurd c9 (by decide))
          refine lv_iinc (v := (nI (k + 1))) (lv' := [(8, .int (nI (k + 1))), (9, .int (-1)), (0, .ref h0), (1, .int (nI cr)), (2, .int 6), (3, .int (nI se_)), (4, .int po_), (5, .int da), (6, .int co_), (7, .int or_)]) hx hb dX3_extend_179 hl (k := 9) rfl (show nI k + 1 = nI (k + 1) from nI_1 k) (by decide) rfl (fun ls hl => ?_)
          refine lv_goto (tgt := 10) hx hb dX3_extend_182 (by decide) ?_
          exact ih (k + 1) c1 c2 c3 c4 _ _ _ (by omega) (by omega) (hP.sub [0, 1, 2, 3, 4, 5, 6, 7, 8, 9, 10, 11] rfl) (hD.sub [0, 1, 2, 3, 4, 5, 6, 7, 8, 9, 10, 11] (by decide) rfl) hS (lv_sub hl [2, 3, 4, 5, 6, 7, 8, 9, 0] rfl)
set_option maxHeartbeats 4000000 in
set_option maxRecDepth 100000 in
theorem c_X3_extend6 (l : Launch) (E : vE) (h0 : Nat) (of : Nat) (e1 : Nat) (e2 : Nat) (e3 : Nat) (e4 : Nat) (g1 : Nat) (g2 : Nat) (g3 : Nat) (g4 : Nat) (g5 : Nat) (g6 : Nat) (g7 : Nat) (g8 : Nat) (on : Nat) (d1 : Nat → Int32) (d2 : Nat → Int32) (d3 : Nat → Int32) (d4 : Nat → Int32) (d5 : Nat → Int32) (d8 : Nat → Int32) (cr : Nat) (se_ : Nat) (po_ : Int32) (da : Int32) (co_ : Int32) (or_ : Int32) (c1 : Nat → Int32) (c2 : Nat → Int32) (c3 : Nat → Int32) (c4 : Nat → Int32) (sz : Nat) (hcr : cr < 4) (hse : se_ < 128) (hd1 : ∀ k, k < 7 → inR (d1 k) 0 9 = true) : Met l yX3_extend wsX3_extend ({ frames := 4, cells := 0, slots := 0, locals := 100 }) (pcW E [.ref h0, .int (nI cr), .int 6, .int (nI se_), .int po_, .int da, .int co_, .int or_] sz [(h0, .inr (3, [.ref of, .ref e1, .ref e2, .ref e3, .ref e4])), (of, .inr (2, [.ref g1, .ref g2, .ref g3, .ref g4, .ref g5, .int (nI on), .ref g6, .ref g7, .ref g8])), (g1, .inl (E.2.1 0, 7, .inl d1)), (g2, .inl (E.2.1 0, 7, .inl d2)), (g3, .inl (E.2.1 0, 7, .inl d3)), (g4, .inl (E.2.1 0, 7, .inl d4)), (g5, .inl (E.2.1 0, 7, .inl d5)), (g8, .inl (E.2.1 0, 100, .inl d8)), (e1, .inl (E.2.1 0, 512, .inl c1)), (e2, .inl (E.2.1 0, 512, .inl c2)), (e3, .inl (E.2.1 0, 896, .inl c3)), (e4, .inl (E.2.1 0, 896, .inl c4))]) (va_Qv (fun (u : (Nat → Int32) × (Nat → Int32) × (Nat → Int32) × (Nat → Int32)) => match u with | (c12, c22, c32, c42) => True) (fun (u : (Nat → Int32) × (Nat → Int32) × (Nat → Int32) × (Nat → Int32)) (t : State) => match u with | (c12, c22, c32, c42) => wB E (va_A [(h0, .inr (3, [.ref of, .ref e1, .ref e2, .ref e3, .ref e4])), (of, .inr (2, [.ref g1, .ref g2, .ref g3, .ref g4, .ref g5, .int (nI on), .ref g6, .ref g7, .ref g8])), (g1, .inl (E.2.1 0, 7, .inl d1)), (g2, .inl (E.2.1 0, 7, .inl d2)), (g3, .inl (E.2.1 0, 7, .inl d3)), (g4, .inl (E.2.1 0, 7, .inl d4)), (g5, .inl (E.2.1 0, 7, .inl d5)), (g8, .inl (E.2.1 0, 100, .inl d8)), (e1, .inl (E.2.1 0, 512, .inl c1)), (e2, .inl (E.2.1 0, 512, .inl c2)), (e3, .inl (E.2.1 0, 896, .inl c3)), (e4, .inl (E.2.1 0, 896, .inl c4))] sz) [(h0, .inr (3, [.ref of, .ref e1, .ref e2, .ref e3, .ref e4])), (of, .inr (2, [.ref g1, .ref g2, .ref g3, .ref g4, .ref g5, .int (nI on), .ref g6, .ref g7, .ref g8])), (g1, .inl (E.2.1 0, 7, .inl d1)), (g2, .inl (E.2.1 0, 7, .inl d2)), (g3, .inl (E.2.1 0, 7, .inl d3)), (g4, .inl (E.2.1 0, 7, .inl d4)), (g5, .inl (E.2.1 0, 7, .inl d5)), (g8, .inl (E.2.1 0, 100, .inl d8)), (e1, .inl (E.2.1 0, 512, .inl c12)), (e2, .inl (E.2.1 0, 512, .inl c22)), (e3, .inl (E.2.1 0, 896, .inl c32)), (e4, .inl (E.2.1 0, 896, .inl c42))] t) (va_A [(h0, .inr (3, [.ref of, .ref e1, .ref e2, .ref e3, .ref e4])), (of, .inr (2, [.ref g1, .ref g2, .ref g3, .ref g4, .ref g5, .int (nI on), .ref g6, .ref g7, .ref g8])), (g1, .inl (E.2.1 0, 7, .inl d1)), (g2, .inl (E.2.1 0, 7, .inl d2)), (g3, .inl (E.2.1 0, 7, .inl d3)), (g4, .inl (E.2.1 0, 7, .inl d4)), (g5, .inl (E.2.1 0, 7, .inl d5)), (g8, .inl (E.2.1 0, 100, .inl d8)), (e1, .inl (E.2.1 0, 512, .inl c1)), (e2, .inl (E.2.1 0, 512, .inl c2)), (e3, .inl (E.2.1 0, 896, .inl c3)), (e4, .inl (E.2.1 0, 896, .inl c4))] sz)) 0 0 (va_A [(h0, .inr (3, [.ref of, .ref e1, .ref e2, .ref e3, .ref e4])), (of, .inr (2, [.ref g1, .ref g2, .ref g3, .ref g4, .ref g5, .int (nI on), .ref g6, .ref g7, .ref g8])), (g1, .inl (E.2.1 0, 7, .inl d1)), (g2, .inl (E.2.1 0, 7, .inl d2)), (g3, .inl (E.2.1 0, 7, .inl d3)), (g4, .inl (E.2.1 0, 7, .inl d4)), (g5, .inl (E.2.1 0, 7, .inl d5)), (g8, .inl (E.2.1 0, 100, .inl d8)), (e1, .inl (E.2.1 0, 512, .inl c1)), (e2, .inl (E.2.1 0, 512, .inl c2)), (e3, .inl (E.2.1 0, 896, .inl c3)), (e4, .inl (E.2.1 0, 896, .inl c4))] sz) := by
  refine Met.ofW (cc := cX3_extend) (maxL := 13) (ret := none) (by decide) rfl ?_
  intro p e s m args below meth c s₁ B hml hv
  obtain ⟨rfl, hsz, hP, hkn, hD0, hst⟩ := hv
  have hx := B.exec
  have hb := B.bytes
  have hr := B.returns
  have hts := atoms_spec (ws := wsX3_extend) B.pre
  have hown : s.vm.findClass RX3 = some m.cls := findClass_of_methodNamed B.named
  have hlocks := B.notSynchronized
  subst hsz
  have hD := hD0.self (sz := s.heap.size)
  have hK := hkn.1
  have hAO := hkn.2.2.1
  generalize hAe : va_A [(h0, .inr (3, [.ref of, .ref e1, .ref e2, .ref e3, .ref e4])), (of, .inr (2, [.ref g1, .ref g2, .ref g3, .ref g4, .ref g5, .int (nI on), .ref g6, .ref g7, .ref g8])), (g1, .inl (E.2.1 0, 7, .inl d1)), (g2, .inl (E.2.1 0, 7, .inl d2)), (g3, .inl (E.2.1 0, 7, .inl d3)), (g4, .inl (E.2.1 0, 7, .inl d4)), (g5, .inl (E.2.1 0, 7, .inl d5)), (g8, .inl (E.2.1 0, 100, .inl d8)), (e1, .inl (E.2.1 0, 512, .inl c1)), (e2, .inl (E.2.1 0, 512, .inl c2)), (e3, .inl (E.2.1 0, 896, .inl c3)), (e4, .inl (E.2.1 0, 896, .inl c4))] s.heap.size = A at hD hst ⊢
  have hA : ∀ q : Nat, s.heap.size ≤ q → A q := fun q h => by rw [← hAe]; exact Or.inr h
  have hS : va_S A s.heap s.heap [] := va_S.rf
  have hP : va_P E.1 vwCl [(h0, .inr (3, [.ref of, .ref e1, .ref e2, .ref e3, .ref e4])), (of, .inr (2, [.ref g1, .ref g2, .ref g3, .ref g4, .ref g5, .int (nI on), .ref g6, .ref g7, .ref g8])), (g1, .inl (E.2.1 0, 7, .inl d1)), (g2, .inl (E.2.1 0, 7, .inl d2)), (g3, .inl (E.2.1 0, 7, .inl d3)), (g4, .inl (E.2.1 0, 7, .inl d4)), (g5, .inl (E.2.1 0, 7, .inl d5)), (g8, .inl (E.2.1 0, 100, .inl d8)), (e1, .inl (E.2.1 0, 512, .inl c1)), (e2, .inl (E.2.1 0, 512, .inl c2)), (e3, .inl (E.2.1 0, 896, .inl c3)), (e4, .inl (E.2.1 0, 896, .inl c4))] s.heap := hP
  have hl := lv_entry ([.ref h0, .int (nI cr), .int 6, .int (nI se_), .int po_, .int da, .int co_, .int or_]) (n := 13) (Nat.le_of_ble_eq_true rfl)
  rw [lg_entry_eq]
  generalize (lg_sl ([.ref h0, .int (nI cr), .int 6, .int (nI se_), .int po_, .int da, .int co_, .int or_]) ++ List.replicate (13 - (lg_sl ([.ref h0, .int (nI cr), .int 6, .int (nI se_), .int po_, .int da, .int co_, .int or_])).length) Slot.unset).toArray = ls at hl ⊢
  have hl : lv_has ls 13 [(0, .ref h0), (1, .int (nI cr)), (2, .int 6), (3, .int (nI se_)), (4, .int po_), (5, .int da), (6, .int co_), (7, .int or_)] := hl
  have fl24 := hts (.fieldLink RX3 24 "BoatsHome$Orders" "offers" "LBoatsHome$Offers;") (by first | exact List.mem_of_getElem? (i := 1) rfl | decide +kernel)
  have fl47 := hts (.fieldLink RX3 47 "BoatsHome$Offers" "size" "I") (by first | exact List.mem_of_getElem? (i := 2) rfl | decide +kernel)
  have fl55 := hts (.fieldLink RX3 55 "BoatsHome$Offers" "days" "[I") (by first | exact List.mem_of_getElem? (i := 3) rfl | decide +kernel)
  have fl70 := hts (.fieldLink RX3 70 "BoatsHome$Offers" "to" "[I") (by first | exact List.mem_of_getElem? (i := 4) rfl | decide +kernel)
  have inX2 : ∀ w ∈ u_ws RX2 TX2 9, w ∈ wsX3_extend := by first | exact fun w h9 => (List.mem_cons_of_mem _ (List.mem_append_right _ h9)) | decide +kernel
  have inX3 : ∀ w ∈ u_ws RX3 TX3 5, w ∈ wsX3_extend := by first | exact fun w h9 => (List.mem_cons_of_mem _ (List.mem_append_left _ (List.mem_append_right _ h9))) | decide +kernel
  refine lv_iload_n hx hb dX3_extend_0 rfl (lv_at hl 2 rfl) ?_
  refine lv_bipush (v := 7) hx hb dX3_extend_1 (by decide) ?_
  refine lv_icmp_lt (tgt := 7) hx hb dX3_extend_3 (by decide) (fun _ => ?_) (fun c9 => absurd c9 (by decide))
  refine lv_iconst (v := 0) hx hb dX3_extend_7 (by decide) ?_
  refine lv_istore (lv' := [(8, .int 0), (0, .ref h0), (1, .int (nI cr)), (2, .int 6), (3, .int (nI se_)), (4, .int po_), (5, .int da), (6, .int co_), (7, .int or_)]) hx hb dX3_extend_8 hl (by decide) rfl (fun ls hl => ?_)
  have hPl := hP.sub (ws' := [(h0, .inr (3, [.ref of, .ref e1, .ref e2, .ref e3, .ref e4])), (of, .inr (2, [.ref g1, .ref g2, .ref g3, .ref g4, .ref g5, .int (nI on), .ref g6, .ref g7, .ref g8])), (g1, .inl (E.2.1 0, 7, .inl d1)), (g2, .inl (E.2.1 0, 7, .inl d2)), (g3, .inl (E.2.1 0, 7, .inl d3)), (g4, .inl (E.2.1 0, 7, .inl d4)), (g5, .inl (E.2.1 0, 7, .inl d5)), (g8, .inl (E.2.1 0, 100, .inl d8)), (e1, .inl (E.2.1 0, 512, .inl c1)), (e2, .inl (E.2.1 0, 512, .inl c2)), (e3, .inl (E.2.1 0, 896, .inl c3)), (e4, .inl (E.2.1 0, 896, .inl c4))]) [0, 1, 2, 3, 4, 5, 6, 7, 8, 9, 10, 11] rfl
  have hDl := hD.sub (ws' := [(h0, .inr (3, [.ref of, .ref e1, .ref e2, .ref e3, .ref e4])), (of, .inr (2, [.ref g1, .ref g2, .ref g3, .ref g4, .ref g5, .int (nI on), .ref g6, .ref g7, .ref g8])), (g1, .inl (E.2.1 0, 7, .inl d1)), (g2, .inl (E.2.1 0, 7, .inl d2)), (g3, .inl (E.2.1 0, 7, .inl d3)), (g4, .inl (E.2.1 0, 7, .inl d4)), (g5, .inl (E.2.1 0, 7, .inl d5)), (g8, .inl (E.2.1 0, 100, .inl d8)), (e1, .inl (E.2.1 0, 512, .inl c1)), (e2, .inl (E.2.1 0, 512, .inl c2)), (e3, .inl (E.2.1 0, 896, .inl c3)), (e4, .inl (E.2.1 0, 896, .inl c4))]) [0, 1, 2, 3, 4, 5, 6, 7, 8, 9, 10, 11] (by decide) rfl
  refine lg_extend6 E h0 of e1 e2 e3 e4 g1 g2 g3 g4 g5 g6 g7 g8 on d1 d2 d3 d4 d5 d8 cr se_ po_ da co_ or_ hx hb hml hown hts hkn hst hA hcr hse hd1 (fun n_1 n_2 n_3 n_4 H locs ls  hP hD hS hl => ?_) 8 0 c1 c2 c3 c4 _ _ _ (by omega) (by omega) hPl hDl hS (lv_sub hl [1, 2, 3, 4, 5, 6, 7, 8, 0] rfl)
  have hP : va_P E.1 vwCl [(h0, .inr (3, [.ref of, .ref e1, .ref e2, .ref e3, .ref e4])), (of, .inr (2, [.ref g1, .ref g2, .ref g3, .ref g4, .ref g5, .int (nI on), .ref g6, .ref g7, .ref g8])), (g1, .inl (E.2.1 0, 7, .inl d1)), (g2, .inl (E.2.1 0, 7, .inl d2)), (g3, .inl (E.2.1 0, 7, .inl d3)), (g4, .inl (E.2.1 0, 7, .inl d4)), (g5, .inl (E.2.1 0, 7, .inl d5)), (g8, .inl (E.2.1 0, 100, .inl d8)), (e1, .inl (E.2.1 0, 512, .inl n_1)), (e2, .inl (E.2.1 0, 512, .inl n_2)), (e3, .inl (E.2.1 0, 896, .inl n_3)), (e4, .inl (E.2.1 0, 896, .inl n_4))] H := hP
  have hD : va_D A [(h0, .inr (3, [.ref of, .ref e1, .ref e2, .ref e3, .ref e4])), (of, .inr (2, [.ref g1, .ref g2, .ref g3, .ref g4, .ref g5, .int (nI on), .ref g6, .ref g7, .ref g8])), (g1, .inl (E.2.1 0, 7, .inl d1)), (g2, .inl (E.2.1 0, 7, .inl d2)), (g3, .inl (E.2.1 0, 7, .inl d3)), (g4, .inl (E.2.1 0, 7, .inl d4)), (g5, .inl (E.2.1 0, 7, .inl d5)), (g8, .inl (E.2.1 0, 100, .inl d8)), (e1, .inl (E.2.1 0, 512, .inl n_1)), (e2, .inl (E.2.1 0, 512, .inl n_2)), (e3, .inl (E.2.1 0, 896, .inl n_3)), (e4, .inl (E.2.1 0, 896, .inl n_4))] := hD
  have hP9 := hP.sub (ws' := [(h0, .inr (3, [.ref of, .ref e1, .ref e2, .ref e3, .ref e4])), (of, .inr (2, [.ref g1, .ref g2, .ref g3, .ref g4, .ref g5, .int (nI on), .ref g6, .ref g7, .ref g8])), (g1, .inl (E.2.1 0, 7, .inl d1)), (g2, .inl (E.2.1 0, 7, .inl d2)), (g3, .inl (E.2.1 0, 7, .inl d3)), (g4, .inl (E.2.1 0, 7, .inl d4)), (g5, .inl (E.2.1 0, 7, .inl d5)), (g8, .inl (E.2.1 0, 100, .inl d8)), (e1, .inl (E.2.1 0, 512, .inl n_1)), (e2, .inl (E.2.1 0, 512, .inl n_2)), (e3, .inl (E.2.1 0, 896, .inl n_3)), (e4, .inl (E.2.1 0, 896, .inl n_4))]) [0, 1, 2, 3, 4, 5, 6, 7, 8, 9, 10, 11] rfl
  have hD9 := hD.sub (ws' := [(h0, .inr (3, [.ref of, .ref e1, .ref e2, .ref e3, .ref e4])), (of, .inr (2, [.ref g1, .ref g2, .ref g3, .ref g4, .ref g5, .int (nI on), .ref g6, .ref g7, .ref g8])), (g1, .inl (E.2.1 0, 7, .inl d1)), (g2, .inl (E.2.1 0, 7, .inl d2)), (g3, .inl (E.2.1 0, 7, .inl d3)), (g4, .inl (E.2.1 0, 7, .inl d4)), (g5, .inl (E.2.1 0, 7, .inl d5)), (g8, .inl (E.2.1 0, 100, .inl d8)), (e1, .inl (E.2.1 0, 512, .inl n_1)), (e2, .inl (E.2.1 0, 512, .inl n_2)), (e3, .inl (E.2.1 0, 896, .inl n_3)), (e4, .inl (E.2.1 0, 896, .inl n_4))]) [0, 1, 2, 3, 4, 5, 6, 7, 8, 9, 10, 11] (by decide) rfl
  exact W.vret hx hb hr (fun t ht hW => ⟨⟨(n_1, n_2, n_3, n_4), rfl, trivial, by rw [ht]; exact hP9, hD9⟩, hS.F ht⟩) hS.2.2 dX3_extend_185
set_option maxHeartbeats 4000000 in
set_option maxRecDepth 100000 in
theorem lg_extend5 {p : Program} {l : Launch} {e : Env} {s : State} {m : MethodId} {args : Array Value} {below : List Frame} {meth : Method} {c : Code} {Q : State → Prop} {A : Nat → Prop} (E : vE) (h0 : Nat) (of : Nat) (e1 : Nat) (e2 : Nat) (e3 : Nat) (e4 : Nat) (g1 : Nat) (g2 : Nat) (g3 : Nat) (g4 : Nat) (g5 : Nat) (g6 : Nat) (g7 : Nat) (g8 : Nat) (on : Nat) (d1 : Nat → Int32) (d2 : Nat → Int32) (d3 : Nat → Int32) (d4 : Nat → Int32) (d5 : Nat → Int32) (d8 : Nat → Int32) (cr : Nat) (se_ : Nat) (po_ : Int32) (da : Int32) (co_ : Int32) (or_ : Int32) (hx : p.tables.exec = Jvm.exec) (hb : c.code = cX3_extend) (hml : c.maxLocals = 13) (hown : s.vm.findClass RX3 = some m.cls) (hts : ∀ w ∈ wsX3_extend, w.before args s = true) (hkn : kn E s) (hst : st E A s s.heap) (hA : ∀ q : Nat, s.heap.size ≤ q → A q) (hcr : cr < 4) (hse : se_ < 128) (hd1 : ∀ k, k < 7 → inR (d1 k) 0 9 = true) (kk : ∀ (c1 : Nat → Int32) (c2 : Nat → Int32) (c3 : Nat → Int32) (c4 : Nat → Int32) (H : Heap) (locs : List Loc) (ls : Array Slot), va_P E.1 vwCl [(h0, .inr (3, [.ref of, .ref e1, .ref e2, .ref e3, .ref e4])), (of, .inr (2, [.ref g1, .ref g2, .ref g3, .ref g4, .ref g5, .int (nI on), .ref g6, .ref g7, .ref g8])), (g1, .inl (E.2.1 0, 7, .inl d1)), (g2, .inl (E.2.1 0, 7, .inl d2)), (g3, .inl (E.2.1 0, 7, .inl d3)), (g4, .inl (E.2.1 0, 7, .inl d4)), (g5, .inl (E.2.1 0, 7, .inl d5)), (g8, .inl (E.2.1 0, 100, .inl d8)), (e1, .inl (E.2.1 0, 512, .inl c1)), (e2, .inl (E.2.1 0, 512, .inl c2)), (e3, .inl (E.2.1 0, 896, .inl c3)), (e4, .inl (E.2.1 0, 896, .inl c4))] H → va_D A [(h0, .inr (3, [.ref of, .ref e1, .ref e2, .ref e3, .ref e4])), (of, .inr (2, [.ref g1, .ref g2, .ref g3, .ref g4, .ref g5, .int (nI on), .ref g6, .ref g7, .ref g8])), (g1, .inl (E.2.1 0, 7, .inl d1)), (g2, .inl (E.2.1 0, 7, .inl d2)), (g3, .inl (E.2.1 0, 7, .inl d3)), (g4, .inl (E.2.1 0, 7, .inl d4)), (g5, .inl (E.2.1 0, 7, .inl d5)), (g8, .inl (E.2.1 0, 100, .inl d8)), (e1, .inl (E.2.1 0, 512, .inl c1)), (e2, .inl (E.2.1 0, 512, .inl c2)), (e3, .inl (E.2.1 0, 896, .inl c3)), (e4, .inl (E.2.1 0, 896, .inl c4))] → va_S A s.heap H locs → lv_has ls 13 [(0, .ref h0)] → W p l e ({ frames := 5, cells := 0, slots := 0, locals := 132 }) s m args below meth c H locs 0 0 Q (F0 m 185 ls [])) : ∀ (n0 : Nat) (k : Nat) (c1 : Nat → Int32) (c2 : Nat → Int32) (c3 : Nat → Int32) (c4 : Nat → Int32) (H : Heap) (locs : List Loc) (ls : Array Slot), 7 - k < n0 → (k ≤ 7) → va_P E.1 vwCl [(h0, .inr (3, [.ref of, .ref e1, .ref e2, .ref e3, .ref e4])), (of, .inr (2, [.ref g1, .ref g2, .ref g3, .ref g4, .ref g5, .int (nI on), .ref g6, .ref g7, .ref g8])), (g1, .inl (E.2.1 0, 7, .inl d1)), (g2, .inl (E.2.1 0, 7, .inl d2)), (g3, .inl (E.2.1 0, 7, .inl d3)), (g4, .inl (E.2.1 0, 7, .inl d4)), (g5, .inl (E.2.1 0, 7, .inl d5)), (g8, .inl (E.2.1 0, 100, .inl d8)), (e1, .inl (E.2.1 0, 512, .inl c1)), (e2, .inl (E.2.1 0, 512, .inl c2)), (e3, .inl (E.2.1 0, 896, .inl c3)), (e4, .inl (E.2.1 0, 896, .inl c4))] H → va_D A [(h0, .inr (3, [.ref of, .ref e1, .ref e2, .ref e3, .ref e4])), (of, .inr (2, [.ref g1, .ref g2, .ref g3, .ref g4, .ref g5, .int (nI on), .ref g6, .ref g7, .ref g8])), (g1, .inl (E.2.1 0, 7, .inl d1)), (g2, .inl (E.2.1 0, 7, .inl d2)), (g3, .inl (E.2.1 0, 7, .inl d3)), (g4, .inl (E.2.1 0, 7, .inl d4)), (g5, .inl (E.2.1 0, 7, .inl d5)), (g8, .inl (E.2.1 0, 100, .inl d8)), (e1, .inl (E.2.1 0, 512, .inl c1)), (e2, .inl (E.2.1 0, 512, .inl c2)), (e3, .inl (E.2.1 0, 896, .inl c3)), (e4, .inl (E.2.1 0, 896, .inl c4))] → va_S A s.heap H locs → lv_has ls 13 [(0, .ref h0), (1, .int (nI cr)), (2, .int 5), (3, .int (nI se_)), (4, .int po_), (5, .int da), (6, .int co_), (7, .int or_), (8, .int (nI k))] → W p l e ({ frames := 5, cells := 0, slots := 0, locals := 132 }) s m args below meth c H locs 0 0 Q (F0 m 10 ls []) := by
  have hK := hkn.1
  have hAO := hkn.2.2.1
  have fl24 := hts (.fieldLink RX3 24 "BoatsHome$Orders" "offers" "LBoatsHome$Offers;") (by first | exact List.mem_of_getElem? (i := 1) rfl | decide +kernel)
  have fl47 := hts (.fieldLink RX3 47 "BoatsHome$Offers" "size" "I") (by first | exact List.mem_of_getElem? (i := 2) rfl | decide +kernel)
  have fl55 := hts (.fieldLink RX3 55 "BoatsHome$Offers" "days" "[I") (by first | exact List.mem_of_getElem? (i := 3) rfl | decide +kernel)
  have fl70 := hts (.fieldLink RX3 70 "BoatsHome$Offers" "to" "[I") (by first | exact List.mem_of_getElem? (i := 4) rfl | decide +kernel)
  have inX2 : ∀ w ∈ u_ws RX2 TX2 9, w ∈ wsX3_extend := by first | exact fun w h9 => (List.mem_cons_of_mem _ (List.mem_append_right _ h9)) | decide +kernel
  have inX3 : ∀ w ∈ u_ws RX3 TX3 5, w ∈ wsX3_extend := by first | exact fun w h9 => (List.mem_cons_of_mem _ (List.mem_append_left _ (List.mem_append_right _ h9))) | decide +kernel
  intro n0
  induction n0 with
  | zero =>
    intro k c1 c2 c3 c4 H locs ls hn0
    exact absurd hn0 (Nat.not_lt_zero _)
  | succ n0 ih =>
    intro k c1 c2 c3 c4 H locs ls hn0 hk hP hD hS hl
    refine lv_iload hx hb dX3_extend_10 (lv_at hl 8 rfl) ?_
    refine lv_aload_n hx hb dX3_extend_12 rfl (lv_at hl 0 rfl) ?_
    refine va_get (D := E.1) (ci := 3) (v := .ref of) (C := RX3) (T := TX3) (N := 5) hx hb hts inX3 hown hK hP 0 rfl rfl 0 (by decide) fl24 (fun _ h9 => h9) rfl dX3_extend_13 ?_
    refine va_get (D := E.1) (ci := 2) (v := .int (nI on)) (C := RX2) (T := TX2) (N := 9) hx hb hts inX2 hown hK hP 1 rfl rfl 5 (by decide) fl47 (fun _ h9 => h9) rfl dX3_extend_16 ?_
    refine lv_icmp_ge (tgt := 185) hx hb dX3_extend_19 (by decide) (fun c_1 => ?_) (fun c_1 => ?_)
    · exact kk c1 c2 c3 c4 _ _ _  (hP.sub [0, 1, 2, 3, 4, 5, 6, 7, 8, 9, 10, 11] rfl) (hD.sub [0, 1, 2, 3, 4, 5, 6, 7, 8, 9, 10, 11] (by decide) rfl) hS (lv_sub hl [0] rfl)
    · refine lv_iload hx hb dX3_extend_22 (lv_at hl 8 rfl) ?_
      refine lv_bipush (v := 7) hx hb dX3_extend_24 (by decide) ?_
      refine lv_icmp_ge (tgt := 185) hx hb dX3_extend_26 (by decide) (fun c_2 => ?_) (fun c_2 => ?_)
      · exact kk c1 c2 c3 c4 _ _ _  (hP.sub [0, 1, 2, 3, 4, 5, 6, 7, 8, 9, 10, 11] rfl) (hD.sub [0, 1, 2, 3, 4, 5, 6, 7, 8, 9, 10, 11] (by decide) rfl) hS (lv_sub hl [0] rfl)
      · have hlt : k < 7 := by
          rcases Nat.lt_or_ge k 7 with q | q
          · exact q
          · exact absurd (show (7 : Int32) ≤ nI k from nI_le (a := 7) q (by omega)) c_2
        refine lv_iload_n hx hb dX3_extend_29 rfl (lv_at hl 3 rfl) ?_
        refine lv_iload hx hb dX3_extend_30 (lv_at hl 8 rfl) ?_
        refine lv_ishr hx hb dX3_extend_32 ?_
        refine lv_topi (fun x_3 ex_3 => ?_)
        refine lv_iconst (v := 1) hx hb dX3_extend_33 (by decide) ?_
        refine lv_iand hx hb dX3_extend_34 ?_
        refine lv_topi (fun x_4 ex_4 => ?_)
        refine lv_if_eq (tgt := 42) hx hb dX3_extend_35 (by decide) (fun c_5 => ?_) (fun c_5 => ?_)
        · refine lv_aload_n hx hb dX3_extend_42 rfl (lv_at hl 0 rfl) ?_
          refine va_get (D := E.1) (ci := 3) (v := .ref of) (C := RX3) (T := TX3) (N := 5) hx hb hts inX3 hown hK hP 0 rfl rfl 0 (by decide) fl24 (fun _ h9 => h9) rfl dX3_extend_43 ?_
          refine lv_iload hx hb dX3_extend_46 (lv_at hl 8 rfl) ?_
          refine lv_iload hx hb dX3_extend_48 (lv_at hl 4 rfl) ?_
          refine lv_iload hx hb dX3_extend_50 (lv_at hl 5 rfl) ?_
          have hPc := hP.sub (ws' := [(of, .inr (2, [.ref g1, .ref g2, .ref g3, .ref g4, .ref g5, .int (nI on), .ref g6, .ref g7, .ref g8])), (g1, .inl (E.2.1 0, 7, .inl d1)), (g4, .inl (E.2.1 0, 7, .inl d4)), (g5, .inl (E.2.1 0, 7, .inl d5)), (g8, .inl (E.2.1 0, 100, .inl d8))]) [1, 2, 5, 6, 7] rfl
          have hDc := hD.sub (ws' := [(of, .inr (2, [.ref g1, .ref g2, .ref g3, .ref g4, .ref g5, .int (nI on), .ref g6, .ref g7, .ref g8])), (g1, .inl (E.2.1 0, 7, .inl d1)), (g4, .inl (E.2.1 0, 7, .inl d4)), (g5, .inl (E.2.1 0, 7, .inl d5)), (g8, .inl (E.2.1 0, 100, .inl d8))]) [1, 2, 5, 6, 7] (by decide) rfl
          have hFc := va_free (wc := [(of, .inr (2, [.ref g1, .ref g2, .ref g3, .ref g4, .ref g5, .int (nI on), .ref g6, .ref g7, .ref g8])), (g1, .inl (E.2.1 0, 7, .inl d1)), (g4, .inl (E.2.1 0, 7, .inl d4)), (g5, .inl (E.2.1 0, 7, .inl d5)), (g8, .inl (E.2.1 0, 100, .inl d8))]) hD hS hA [1, 2, 5, 6, 7] rfl
          refine va_calli (va_runV (As := [.int (nI k), .int po_, .int da]) (rest := []) ⟨hx, hb, hml, hown, hts⟩ (c_X2_startOf l E of g1 g2 g3 g4 g5 g6 g7 g8 on d1 d4 d5 d8 k po_ da H.size hlt hd1) (cwV 3 hts gX3_extend_X2_startOf rfl rfl rfl hdV_X2_startOf ⟨Nat.le_of_ble_eq_true rfl, Nat.le_of_ble_eq_true rfl⟩) ⟨pcW_blind, va_recv hK hPc (ci := 2) (q0 := 0) rfl rfl, (pcW_pre hPc hkn hDc hst hS hFc)⟩ rfl rfl hl.1 rfl (lv_room (Nat.le_of_ble_eq_true rfl)) dX3_extend_52 ⟨Nat.le_of_ble_eq_true rfl, Nat.le_of_ble_eq_true rfl⟩) hS (fun q _ h => hFc q h) hFc (fun r_6 u t H1 locs ht hvm hw_7 hB hz1 hk1 hS => ?_)
          obtain ⟨hP1, hD1⟩ := hB
          rw [ht] at hP1
          try dsimp only at hw_7
          obtain ⟨hP, hD⟩ := va_join (wr := [(h0, .inr (3, [.ref of, .ref e1, .ref e2, .ref e3, .ref e4])), (g2, .inl (E.2.1 0, 7, .inl d2)), (g3, .inl (E.2.1 0, 7, .inl d3)), (e1, .inl (E.2.1 0, 512, .inl c1)), (e2, .inl (E.2.1 0, 512, .inl c2)), (e3, .inl (E.2.1 0, 896, .inl c3)), (e4, .inl (E.2.1 0, 896, .inl c4))]) (w1 := [(of, .inr (2, [.ref g1, .ref g2, .ref g3, .ref g4, .ref g5, .int (nI on), .ref g6, .ref g7, .ref g8])), (g1, .inl (E.2.1 0, 7, .inl d1)), (g4, .inl (E.2.1 0, 7, .inl d4)), (g5, .inl (E.2.1 0, 7, .inl d5)), (g8, .inl (E.2.1 0, 100, .inl d8))]) hP hD [1, 2, 5, 6, 7] [0, 3, 4, 8, 9, 10, 11] rfl rfl (by decide) (by decide) hk1 hFc hP1 hD1
          generalize H1 = H at hP hS ⊢
          have hP : va_P E.1 vwCl [(h0, .inr (3, [.ref of, .ref e1, .ref e2, .ref e3, .ref e4])), (g2, .inl (E.2.1 0, 7, .inl d2)), (g3, .inl (E.2.1 0, 7, .inl d3)), (e1, .inl (E.2.1 0, 512, .inl c1)), (e2, .inl (E.2.1 0, 512, .inl c2)), (e3, .inl (E.2.1 0, 896, .inl c3)), (e4, .inl (E.2.1 0, 896, .inl c4)), (of, .inr (2, [.ref g1, .ref g2, .ref g3, .ref g4, .ref g5, .int (nI on), .ref g6, .ref g7, .ref g8])), (g1, .inl (E.2.1 0, 7, .inl d1)), (g4, .inl (E.2.1 0, 7, .inl d4)), (g5, .inl (E.2.1 0, 7, .inl d5)), (g8, .inl (E.2.1 0, 100, .inl d8))] H := hP
          have hD : va_D A [(h0, .inr (3, [.ref of, .ref e1, .ref e2, .ref e3, .ref e4])), (g2, .inl (E.2.1 0, 7, .inl d2)), (g3, .inl (E.2.1 0, 7, .inl d3)), (e1, .inl (E.2.1 0, 512, .inl c1)), (e2, .inl (E.2.1 0, 512, .inl c2)), (e3, .inl (E.2.1 0, 896, .inl c3)), (e4, .inl (E.2.1 0, 896, .inl c4)), (of, .inr (2, [.ref g1, .ref g2, .ref g3, .ref g4, .ref g5, .int (nI on), .ref g6, .ref g7, .ref g8])), (g1, .inl (E.2.1 0, 7, .inl d1)), (g4, .inl (E.2.1 0, 7, .inl d4)), (g5, .inl (E.2.1 0, 7, .inl d5)), (g8, .inl (E.2.1 0, 100, .inl d8))] := hD
          refine lv_istore (lv' := [(9, .int r_6), (0, .ref h0), (1, .int (nI cr)), (2, .int 5), (3, .int (nI se_)), (4, .int po_), (5, .int da), (6, .int co_), (7, .int or_), (8, .int (nI k))]) hx hb dX3_extend_55 hl (by decide) rfl (fun ls hl => ?_)
          refine lv_iload hx hb dX3_extend_57 (lv_at hl 0 rfl) ?_
          refine lv_iconst (v := (-1)) hx hb dX3_extend_59 (by decide) ?_
          refine lv_icmp_eq (tgt := 179) hx hb dX3_extend_60 (by decide) (fun c_8 => ?_) (fun c_8 => ?_)
          · refine lv_iinc (v := (nI (k + 1))) (lv' := [(8, .int (nI (k + 1))), (9, .int r_6), (0, .ref h0), (1, .int (nI cr)), (2, .int 5), (3, .int (nI se_)), (4, .int po_), (5, .int da), (6, .int co_), (7, .int or_)]) hx hb dX3_extend_179 hl (k := 9) rfl (show nI k + 1 = nI (k + 1) from nI_1 k) (by decide) rfl (fun ls hl => ?_)
            refine lv_goto (tgt := 10) hx hb dX3_extend_182 (by decide) ?_
            exact ih (k + 1) c1 c2 c3 c4 _ _ _ (by omega) (by omega) (hP.sub [0, 7, 8, 1, 2, 9, 10, 11, 3, 4, 5, 6] rfl) (hD.sub [0, 7, 8, 1, 2, 9, 10, 11, 3, 4, 5, 6] (by decide) rfl) hS (lv_sub hl [2, 3, 4, 5, 6, 7, 8, 9, 0] rfl)
          · refine lv_iload hx hb dX3_extend_63 (lv_at hl 0 rfl) ?_
            refine lv_aload_n hx hb dX3_extend_65 rfl (lv_at hl 1 rfl) ?_
            refine va_get (D := E.1) (ci := 3) (v := .ref of) (C := RX3) (T := TX3) (N := 5) hx hb hts inX3 hown hK hP 0 rfl rfl 0 (by decide) fl24 (fun _ h9 => h9) rfl dX3_extend_66 ?_
            refine va_get (D := E.1) (ci := 2) (v := .ref g3) (C := RX2) (T := TX2) (N := 9) hx hb hts inX2 hown hK hP 7 rfl rfl 2 (by decide) fl55 (fun _ h9 => h9) rfl dX3_extend_69 ?_
            refine lv_iload hx hb dX3_extend_72 (lv_at hl 9 rfl) ?_
            have hi_9 : vp_in (nI k) 7 := vp_in_nI hlt (by decide)
            refine va_iald hx hb hK hP 2 0 rfl rfl hi_9 dX3_extend_74 ?_
            refine lv_topi (fun x_10 ex_10 => ?_)
            refine lv_iadd hx hb dX3_extend_75 ?_
            refine lv_topi (fun x_11 ex_11 => ?_)
            refine lv_istore (lv' := [(10, .int x_11), (9, .int r_6), (0, .ref h0), (1, .int (nI cr)), (2, .int 5), (3, .int (nI se_)), (4, .int po_), (5, .int da), (6, .int co_), (7, .int or_), (8, .int (nI k))]) hx hb dX3_extend_76 hl (by decide) rfl (fun ls hl => ?_)
            refine lv_iload hx hb dX3_extend_78 (lv_at hl 8 rfl) ?_
            refine lv_aload_n hx hb dX3_extend_80 rfl (lv_at hl 2 rfl) ?_
            refine va_get (D := E.1) (ci := 3) (v := .ref of) (C := RX3) (T := TX3) (N := 5) hx hb hts inX3 hown hK hP 0 rfl rfl 0 (by decide) fl24 (fun _ h9 => h9) rfl dX3_extend_81 ?_
            refine lv_iload hx hb dX3_extend_84 (lv_at hl 10 rfl) ?_
            refine lv_iload hx hb dX3_extend_86 (lv_at hl 6 rfl) ?_
            have hPc := hP.sub (ws' := [(of, .inr (2, [.ref g1, .ref g2, .ref g3, .ref g4, .ref g5, .int (nI on), .ref g6, .ref g7, .ref g8])), (g1, .inl (E.2.1 0, 7, .inl d1)), (g8, .inl (E.2.1 0, 100, .inl d8))]) [7, 8, 11] rfl
            have hDc := hD.sub (ws' := [(of, .inr (2, [.ref g1, .ref g2, .ref g3, .ref g4, .ref g5, .int (nI on), .ref g6, .ref g7, .ref g8])), (g1, .inl (E.2.1 0, 7, .inl d1)), (g8, .inl (E.2.1 0, 100, .inl d8))]) [7, 8, 11] (by decide) rfl
            have hFc := va_free (wc := [(of, .inr (2, [.ref g1, .ref g2, .ref g3, .ref g4, .ref g5, .int (nI on), .ref g6, .ref g7, .ref g8])), (g1, .inl (E.2.1 0, 7, .inl d1)), (g8, .inl (E.2.1 0, 100, .inl d8))]) hD hS hA [7, 8, 11] rfl
            refine va_calli (va_runV (As := [.int (nI k), .int po_]) (rest := [.int co_]) ⟨hx, hb, hml, hown, hts⟩ (c_X2_fareTo l E of g1 g2 g3 g4 g5 g6 g7 g8 on d1 d8 k po_ H.size hlt hd1) (cwV 2 hts gX3_extend_X2_fareTo rfl rfl rfl hdV_X2_fareTo ⟨Nat.le_of_ble_eq_true rfl, Nat.le_of_ble_eq_true rfl⟩) ⟨pcW_blind, va_recv hK hPc (ci := 2) (q0 := 0) rfl rfl, (pcW_pre hPc hkn hDc hst hS hFc)⟩ rfl rfl hl.1 rfl (lv_room (Nat.le_of_ble_eq_true rfl)) dX3_extend_88 ⟨Nat.le_of_ble_eq_true rfl, Nat.le_of_ble_eq_true rfl⟩) hS (fun q _ h => hFc q h) hFc (fun r_12 u t H1 locs ht hvm hw_13 hB hz1 hk1 hS => ?_)
            obtain ⟨hP1, hD1⟩ := hB
            rw [ht] at hP1
            try dsimp only at hw_13
            obtain ⟨hP, hD⟩ := va_join (wr := [(h0, .inr (3, [.ref of, .ref e1, .ref e2, .ref e3, .ref e4])), (g2, .inl (E.2.1 0, 7, .inl d2)), (g3, .inl (E.2.1 0, 7, .inl d3)), (e1, .inl (E.2.1 0, 512, .inl c1)), (e2, .inl (E.2.1 0, 512, .inl c2)), (e3, .inl (E.2.1 0, 896, .inl c3)), (e4, .inl (E.2.1 0, 896, .inl c4)), (g4, .inl (E.2.1 0, 7, .inl d4)), (g5, .inl (E.2.1 0, 7, .inl d5))]) (w1 := [(of, .inr (2, [.ref g1, .ref g2, .ref g3, .ref g4, .ref g5, .int (nI on), .ref g6, .ref g7, .ref g8])), (g1, .inl (E.2.1 0, 7, .inl d1)), (g8, .inl (E.2.1 0, 100, .inl d8))]) hP hD [7, 8, 11] [0, 1, 2, 3, 4, 5, 6, 9, 10] rfl rfl (by decide) (by decide) hk1 hFc hP1 hD1
            generalize H1 = H at hP hS ⊢
            have hP : va_P E.1 vwCl [(h0, .inr (3, [.ref of, .ref e1, .ref e2, .ref e3, .ref e4])), (g2, .inl (E.2.1 0, 7, .inl d2)), (g3, .inl (E.2.1 0, 7, .inl d3)), (e1, .inl (E.2.1 0, 512, .inl c1)), (e2, .inl (E.2.1 0, 512, .inl c2)), (e3, .inl (E.2.1 0, 896, .inl c3)), (e4, .inl (E.2.1 0, 896, .inl c4)), (g4, .inl (E.2.1 0, 7, .inl d4)), (g5, .inl (E.2.1 0, 7, .inl d5)), (of, .inr (2, [.ref g1, .ref g2, .ref g3, .ref g4, .ref g5, .int (nI on), .ref g6, .ref g7, .ref g8])), (g1, .inl (E.2.1 0, 7, .inl d1)), (g8, .inl (E.2.1 0, 100, .inl d8))] H := hP
            have hD : va_D A [(h0, .inr (3, [.ref of, .ref e1, .ref e2, .ref e3, .ref e4])), (g2, .inl (E.2.1 0, 7, .inl d2)), (g3, .inl (E.2.1 0, 7, .inl d3)), (e1, .inl (E.2.1 0, 512, .inl c1)), (e2, .inl (E.2.1 0, 512, .inl c2)), (e3, .inl (E.2.1 0, 896, .inl c3)), (e4, .inl (E.2.1 0, 896, .inl c4)), (g4, .inl (E.2.1 0, 7, .inl d4)), (g5, .inl (E.2.1 0, 7, .inl d5)), (of, .inr (2, [.ref g1, .ref g2, .ref g3, .ref g4, .ref g5, .int (nI on), .ref g6, .ref g7, .ref g8])), (g1, .inl (E.2.1 0, 7, .inl d1)), (g8, .inl (E.2.1 0, 100, .inl d8))] := hD
            refine lv_iadd hx hb dX3_extend_91 ?_
            refine lv_topi (fun x_14 ex_14 => ?_)
            refine lv_istore (lv' := [(11, .int x_14), (10, .int x_11), (9, .int r_6), (0, .ref h0), (1, .int (nI cr)), (2, .int 5), (3, .int (nI se_)), (4, .int po_), (5, .int da), (6, .int co_), (7, .int or_), (8, .int (nI k))]) hx hb dX3_extend_92 hl (by decide) rfl (fun ls hl => ?_)
            refine lv_iload_n hx hb dX3_extend_94 rfl (lv_at hl 6 rfl) ?_
            refine lv_iconst (v := 1) hx hb dX3_extend_95 (by decide) ?_
            refine lv_iload hx hb dX3_extend_96 (lv_at hl 11 rfl) ?_
            refine lv_ishl hx hb dX3_extend_98 ?_
            refine lv_topi (fun x_15 ex_15 => ?_)
            refine lv_ior hx hb dX3_extend_99 ?_
            refine lv_topi (fun x_16 ex_16 => ?_)
            obtain ⟨w_17, hwd_18, ew_19⟩ : ∃ w, w < 128 ∧ x_16 = nI w := by rw [ex_16, ex_15]; exact or_bit hse hlt
            subst ew_19
            refine lv_istore (lv' := [(12, .int (nI w_17)), (11, .int x_14), (10, .int x_11), (9, .int r_6), (0, .ref h0), (1, .int (nI cr)), (2, .int 5), (3, .int (nI se_)), (4, .int po_), (5, .int da), (6, .int co_), (7, .int or_), (8, .int (nI k))]) hx hb dX3_extend_100 hl (by decide) rfl (fun ls hl => ?_)
            refine lv_aload_n hx hb dX3_extend_102 rfl (lv_at hl 4 rfl) ?_
            refine lv_iload hx hb dX3_extend_103 (lv_at hl 0 rfl) ?_
            refine lv_bipush (v := 7) hx hb dX3_extend_105 (by decide) ?_
            refine lv_imul hx hb dX3_extend_107 ?_
            refine lv_topi (fun x_20 ex_20 => ?_)
            obtain rfl : x_20 = nI (w_17 * 7) := ex_20.trans (pk_mul w_17 7)
            refine lv_iload hx hb dX3_extend_108 (lv_at hl 12 rfl) ?_
            refine lv_iadd hx hb dX3_extend_110 ?_
            refine lv_topi (fun x_21 ex_21 => ?_)
            obtain rfl : x_21 = nI ((w_17 * 7) + k) := ex_21.trans (nI_add (w_17 * 7) k)
            refine lv_iload hx hb dX3_extend_111 (lv_at hl 2 rfl) ?_
            refine lv_iload hx hb dX3_extend_113 (lv_at hl 1 rfl) ?_
            have hPc := hP.sub (ws' := [(h0, .inr (3, [.ref of, .ref e1, .ref e2, .ref e3, .ref e4])), (e3, .inl (E.2.1 0, 896, .inl c3)), (e4, .inl (E.2.1 0, 896, .inl c4))]) [0, 5, 6] rfl
            have hDc := hD.sub (ws' := [(h0, .inr (3, [.ref of, .ref e1, .ref e2, .ref e3, .ref e4])), (e3, .inl (E.2.1 0, 896, .inl c3)), (e4, .inl (E.2.1 0, 896, .inl c4))]) [0, 5, 6] (by decide) rfl
            have hFc := va_free (wc := [(h0, .inr (3, [.ref of, .ref e1, .ref e2, .ref e3, .ref e4])), (e3, .inl (E.2.1 0, 896, .inl c3)), (e4, .inl (E.2.1 0, 896, .inl c4))]) hD hS hA [0, 5, 6] rfl
            refine va_calli (va_runV (As := [.int (nI ((w_17 * 7) + k)), .int x_11, .int x_14]) (rest := []) ⟨hx, hb, hml, hown, hts⟩ (c_X3_outdone l E h0 of e1 e2 e3 e4 ((w_17 * 7) + k) x_11 x_14 c3 c4 H.size (by omega)) (cwV 3 hts gX3_extend_X3_outdone rfl rfl rfl hdV_X3_outdone ⟨Nat.le_of_ble_eq_true rfl, Nat.le_of_ble_eq_true rfl⟩) ⟨pcW_blind, va_recv hK hPc (ci := 3) (q0 := 0) rfl rfl, (pcW_pre hPc hkn hDc hst hS hFc)⟩ rfl rfl hl.1 rfl (lv_room (Nat.le_of_ble_eq_true rfl)) dX3_extend_115 ⟨Nat.le_of_ble_eq_true rfl, Nat.le_of_ble_eq_true rfl⟩) hS (fun q _ h => hFc q h) hFc (fun r_22 u t H1 locs ht hvm hw_23 hB hz1 hk1 hS => ?_)
            obtain ⟨u_24, u_25⟩ := u
            obtain ⟨hP1, hD1⟩ := hB
            rw [ht] at hP1
            try dsimp only at hw_23
            obtain ⟨hP, hD⟩ := va_join (wr := [(g2, .inl (E.2.1 0, 7, .inl d2)), (g3, .inl (E.2.1 0, 7, .inl d3)), (e1, .inl (E.2.1 0, 512, .inl c1)), (e2, .inl (E.2.1 0, 512, .inl c2)), (g4, .inl (E.2.1 0, 7, .inl d4)), (g5, .inl (E.2.1 0, 7, .inl d5)), (of, .inr (2, [.ref g1, .ref g2, .ref g3, .ref g4, .ref g5, .int (nI on), .ref g6, .ref g7, .ref g8])), (g1, .inl (E.2.1 0, 7, .inl d1)), (g8, .inl (E.2.1 0, 100, .inl d8))]) (w1 := [(h0, .inr (3, [.ref of, .ref e1, .ref e2, .ref e3, .ref e4])), (e3, .inl (E.2.1 0, 896, .inl u_24)), (e4, .inl (E.2.1 0, 896, .inl u_25))]) hP hD [0, 5, 6] [1, 2, 3, 4, 7, 8, 9, 10, 11] rfl rfl (by decide) (by decide) hk1 hFc hP1 hD1
            generalize H1 = H at hP hS ⊢
            have hP : va_P E.1 vwCl [(g2, .inl (E.2.1 0, 7, .inl d2)), (g3, .inl (E.2.1 0, 7, .inl d3)), (e1, .inl (E.2.1 0, 512, .inl c1)), (e2, .inl (E.2.1 0, 512, .inl c2)), (g4, .inl (E.2.1 0, 7, .inl d4)), (g5, .inl (E.2.1 0, 7, .inl d5)), (of, .inr (2, [.ref g1, .ref g2, .ref g3, .ref g4, .ref g5, .int (nI on), .ref g6, .ref g7, .ref g8])), (g1, .inl (E.2.1 0, 7, .inl d1)), (g8, .inl (E.2.1 0, 100, .inl d8)), (h0, .inr (3, [.ref of, .ref e1, .ref e2, .ref e3, .ref e4])), (e3, .inl (E.2.1 0, 896, .inl u_24)), (e4, .inl (E.2.1 0, 896, .inl u_25))] H := hP
            have hD : va_D A [(g2, .inl (E.2.1 0, 7, .inl d2)), (g3, .inl (E.2.1 0, 7, .inl d3)), (e1, .inl (E.2.1 0, 512, .inl c1)), (e2, .inl (E.2.1 0, 512, .inl c2)), (g4, .inl (E.2.1 0, 7, .inl d4)), (g5, .inl (E.2.1 0, 7, .inl d5)), (of, .inr (2, [.ref g1, .ref g2, .ref g3, .ref g4, .ref g5, .int (nI on), .ref g6, .ref g7, .ref g8])), (g1, .inl (E.2.1 0, 7, .inl d1)), (g8, .inl (E.2.1 0, 100, .inl d8)), (h0, .inr (3, [.ref of, .ref e1, .ref e2, .ref e3, .ref e4])), (e3, .inl (E.2.1 0, 896, .inl u_24)), (e4, .inl (E.2.1 0, 896, .inl u_25))] := hD
            refine lv_if_ne (tgt := 179) hx hb dX3_extend_118 (by decide) (fun c_26 => ?_) (fun c_26 => ?_)
            · refine lv_iinc (v := (nI (k + 1))) (lv' := [(8, .int (nI (k + 1))), (12, .int (nI w_17)), (11, .int x_14), (10, .int x_11), (9, .int r_6), (0, .ref h0), (1, .int (nI cr)), (2, .int 5), (3, .int (nI se_)), (4, .int po_), (5, .int da), (6, .int co_), (7, .int or_)]) hx hb dX3_extend_179 hl (k := 12) rfl (show nI k + 1 = nI (k + 1) from nI_1 k) (by decide) rfl (fun ls hl => ?_)
              refine lv_goto (tgt := 10) hx hb dX3_extend_182 (by decide) ?_
              exact ih (k + 1) c1 c2 u_24 u_25 _ _ _ (by omega) (by omega) (hP.sub [9, 6, 7, 0, 1, 4, 5, 8, 2, 3, 10, 11] rfl) (hD.sub [9, 6, 7, 0, 1, 4, 5, 8, 2, 3, 10, 11] (by decide) rfl) hS (lv_sub hl [5, 6, 7, 8, 9, 10, 11, 12, 0] rfl)
            · refine lv_aload_n hx hb dX3_extend_121 rfl (lv_at hl 4 rfl) ?_
              refine lv_iload_n hx hb dX3_extend_122 rfl (lv_at hl 5 rfl) ?_
              refine lv_sipush (v := 128) hx hb dX3_extend_123 (by decide) ?_
              refine lv_imul hx hb dX3_extend_126 ?_
              refine lv_topi (fun x_27 ex_27 => ?_)
              obtain rfl : x_27 = nI (cr * 128) := ex_27.trans (pk_mul cr 128)
              refine lv_iload hx hb dX3_extend_127 (lv_at hl 0 rfl) ?_
              refine lv_iadd hx hb dX3_extend_129 ?_
              refine lv_topi (fun x_28 ex_28 => ?_)
              obtain rfl : x_28 = nI ((cr * 128) + w_17) := ex_28.trans (nI_add (cr * 128) w_17)
              refine lv_iload hx hb dX3_extend_130 (lv_at hl 1 rfl) ?_
              refine lv_iload hx hb dX3_extend_132 (lv_at hl 11 rfl) ?_
              refine lv_bipush (v := 8) hx hb dX3_extend_134 (by decide) ?_
              refine lv_imul hx hb dX3_extend_136 ?_
              refine lv_topi (fun x_29 ex_29 => ?_)
              refine lv_iload hx hb dX3_extend_137 (lv_at hl 12 rfl) ?_
              refine lv_iadd hx hb dX3_extend_139 ?_
              refine lv_topi (fun x_30 ex_30 => ?_)
              refine lv_iconst (v := 1) hx hb dX3_extend_140 (by decide) ?_
              refine lv_iadd hx hb dX3_extend_141 ?_
              refine lv_topi (fun x_31 ex_31 => ?_)
              have hPc := hP.sub (ws' := [(h0, .inr (3, [.ref of, .ref e1, .ref e2, .ref e3, .ref e4])), (e1, .inl (E.2.1 0, 512, .inl c1)), (e2, .inl (E.2.1 0, 512, .inl c2))]) [9, 2, 3] rfl
              have hDc := hD.sub (ws' := [(h0, .inr (3, [.ref of, .ref e1, .ref e2, .ref e3, .ref e4])), (e1, .inl (E.2.1 0, 512, .inl c1)), (e2, .inl (E.2.1 0, 512, .inl c2))]) [9, 2, 3] (by decide) rfl
              have hFc := va_free (wc := [(h0, .inr (3, [.ref of, .ref e1, .ref e2, .ref e3, .ref e4])), (e1, .inl (E.2.1 0, 512, .inl c1)), (e2, .inl (E.2.1 0, 512, .inl c2))]) hD hS hA [9, 2, 3] rfl
              refine va_callv (va_runV (As := [.int (nI ((cr * 128) + w_17)), .int x_14, .int x_31]) (rest := []) ⟨hx, hb, hml, hown, hts⟩ (c_X3_keep l E h0 of e1 e2 e3 e4 ((cr * 128) + w_17) x_14 x_31 c1 c2 H.size (by omega)) (cwV 3 hts gX3_extend_X3_keep rfl rfl rfl hdV_X3_keep ⟨Nat.le_of_ble_eq_true rfl, Nat.le_of_ble_eq_true rfl⟩) ⟨pcW_blind, va_recv hK hPc (ci := 3) (q0 := 0) rfl rfl, (pcW_pre hPc hkn hDc hst hS hFc)⟩ rfl rfl hl.1 rfl (lv_room (Nat.le_of_ble_eq_true rfl)) dX3_extend_142 ⟨Nat.le_of_ble_eq_true rfl, Nat.le_of_ble_eq_true rfl⟩) hS (fun q _ h => hFc q h) hFc (fun u t H1 locs ht hvm hw_33 hB hz1 hk1 hS => ?_)
              obtain ⟨u_34, u_35⟩ := u
              obtain ⟨hP1, hD1⟩ := hB
              rw [ht] at hP1
              try dsimp only at hw_33
              obtain ⟨hP, hD⟩ := va_join (wr := [(g2, .inl (E.2.1 0, 7, .inl d2)), (g3, .inl (E.2.1 0, 7, .inl d3)), (g4, .inl (E.2.1 0, 7, .inl d4)), (g5, .inl (E.2.1 0, 7, .inl d5)), (of, .inr (2, [.ref g1, .ref g2, .ref g3, .ref g4, .ref g5, .int (nI on), .ref g6, .ref g7, .ref g8])), (g1, .inl (E.2.1 0, 7, .inl d1)), (g8, .inl (E.2.1 0, 100, .inl d8)), (e3, .inl (E.2.1 0, 896, .inl u_24)), (e4, .inl (E.2.1 0, 896, .inl u_25))]) (w1 := [(h0, .inr (3, [.ref of, .ref e1, .ref e2, .ref e3, .ref e4])), (e1, .inl (E.2.1 0, 512, .inl u_34)), (e2, .inl (E.2.1 0, 512, .inl u_35))]) hP hD [9, 2, 3] [0, 1, 4, 5, 6, 7, 8, 10, 11] rfl rfl (by decide) (by decide) hk1 hFc hP1 hD1
              generalize H1 = H at hP hS ⊢
              have hP : va_P E.1 vwCl [(g2, .inl (E.2.1 0, 7, .inl d2)), (g3, .inl (E.2.1 0, 7, .inl d3)), (g4, .inl (E.2.1 0, 7, .inl d4)), (g5, .inl (E.2.1 0, 7, .inl d5)), (of, .inr (2, [.ref g1, .ref g2, .ref g3, .ref g4, .ref g5, .int (nI on), .ref g6, .ref g7, .ref g8])), (g1, .inl (E.2.1 0, 7, .inl d1)), (g8, .inl (E.2.1 0, 100, .inl d8)), (e3, .inl (E.2.1 0, 896, .inl u_24)), (e4, .inl (E.2.1 0, 896, .inl u_25)), (h0, .inr (3, [.ref of, .ref e1, .ref e2, .ref e3, .ref e4])), (e1, .inl (E.2.1 0, 512, .inl u_34)), (e2, .inl (E.2.1 0, 512, .inl u_35))] H := hP
              have hD : va_D A [(g2, .inl (E.2.1 0, 7, .inl d2)), (g3, .inl (E.2.1 0, 7, .inl d3)), (g4, .inl (E.2.1 0, 7, .inl d4)), (g5, .inl (E.2.1 0, 7, .inl d5)), (of, .inr (2, [.ref g1, .ref g2, .ref g3, .ref g4, .ref g5, .int (nI on), .ref g6, .ref g7, .ref g8])), (g1, .inl (E.2.1 0, 7, .inl d1)), (g8, .inl (E.2.1 0, 100, .inl d8)), (e3, .inl (E.2.1 0, 896, .inl u_24)), (e4, .inl (E.2.1 0, 896, .inl u_25)), (h0, .inr (3, [.ref of, .ref e1, .ref e2, .ref e3, .ref e4])), (e1, .inl (E.2.1 0, 512, .inl u_34)), (e2, .inl (E.2.1 0, 512, .inl u_35))] := hD
              refine lv_aload_n hx hb dX3_extend_145 rfl (lv_at hl 4 rfl) ?_
              refine lv_iload_n hx hb dX3_extend_146 rfl (lv_at hl 5 rfl) ?_
              refine lv_iload_n hx hb dX3_extend_147 rfl (lv_at hl 6 rfl) ?_
              refine lv_iconst (v := 1) hx hb dX3_extend_148 (by decide) ?_
              refine lv_iadd hx hb dX3_extend_149 ?_
              refine lv_topi (fun x_36 ex_36 => ?_)
              obtain rfl : x_36 = 6 := ex_36.trans (by decide +kernel)
              refine lv_iload hx hb dX3_extend_150 (lv_at hl 0 rfl) ?_
              refine lv_aload_n hx hb dX3_extend_152 rfl (lv_at hl 4 rfl) ?_
              refine va_get (D := E.1) (ci := 3) (v := .ref of) (C := RX3) (T := TX3) (N := 5) hx hb hts inX3 hown hK hP 9 rfl rfl 0 (by decide) fl24 (fun _ h9 => h9) rfl dX3_extend_153 ?_
              refine va_get (D := E.1) (ci := 2) (v := .ref g2) (C := RX2) (T := TX2) (N := 9) hx hb hts inX2 hown hK hP 4 rfl rfl 1 (by decide) fl70 (fun _ h9 => h9) rfl dX3_extend_156 ?_
              refine lv_iload hx hb dX3_extend_159 (lv_at hl 12 rfl) ?_
              refine va_iald hx hb hK hP 0 0 rfl rfl hi_9 dX3_extend_161 ?_
              refine lv_topi (fun x_37 ex_37 => ?_)
              refine lv_iload hx hb dX3_extend_162 (lv_at hl 2 rfl) ?_
              refine lv_iload hx hb dX3_extend_164 (lv_at hl 1 rfl) ?_
              refine lv_iload hx hb dX3_extend_166 (lv_at hl 11 rfl) ?_
              refine lv_bipush (v := 8) hx hb dX3_extend_168 (by decide) ?_
              refine lv_imul hx hb dX3_extend_170 ?_
              refine lv_topi (fun x_38 ex_38 => ?_)
              refine lv_iload hx hb dX3_extend_171 (lv_at hl 12 rfl) ?_
              refine lv_iadd hx hb dX3_extend_173 ?_
              refine lv_topi (fun x_39 ex_39 => ?_)
              refine lv_iconst (v := 1) hx hb dX3_extend_174 (by decide) ?_
              refine lv_iadd hx hb dX3_extend_175 ?_
              refine lv_topi (fun x_40 ex_40 => ?_)
              have hPc := hP.sub (ws' := [(h0, .inr (3, [.ref of, .ref e1, .ref e2, .ref e3, .ref e4])), (of, .inr (2, [.ref g1, .ref g2, .ref g3, .ref g4, .ref g5, .int (nI on), .ref g6, .ref g7, .ref g8])), (g1, .inl (E.2.1 0, 7, .inl d1)), (g2, .inl (E.2.1 0, 7, .inl d2)), (g3, .inl (E.2.1 0, 7, .inl d3)), (g4, .inl (E.2.1 0, 7, .inl d4)), (g5, .inl (E.2.1 0, 7, .inl d5)), (g8, .inl (E.2.1 0, 100, .inl d8)), (e1, .inl (E.2.1 0, 512, .inl u_34)), (e2, .inl (E.2.1 0, 512, .inl u_35)), (e3, .inl (E.2.1 0, 896, .inl u_24)), (e4, .inl (E.2.1 0, 896, .inl u_25))]) [9, 4, 5, 0, 1, 2, 3, 6, 10, 11, 7, 8] rfl
              have hDc := hD.sub (ws' := [(h0, .inr (3, [.ref of, .ref e1, .ref e2, .ref e3, .ref e4])), (of, .inr (2, [.ref g1, .ref g2, .ref g3, .ref g4, .ref g5, .int (nI on), .ref g6, .ref g7, .ref g8])), (g1, .inl (E.2.1 0, 7, .inl d1)), (g2, .inl (E.2.1 0, 7, .inl d2)), (g3, .inl (E.2.1 0, 7, .inl d3)), (g4, .inl (E.2.1 0, 7, .inl d4)), (g5, .inl (E.2.1 0, 7, .inl d5)), (g8, .inl (E.2.1 0, 100, .inl d8)), (e1, .inl (E.2.1 0, 512, .inl u_34)), (e2, .inl (E.2.1 0, 512, .inl u_35)), (e3, .inl (E.2.1 0, 896, .inl u_24)), (e4, .inl (E.2.1 0, 896, .inl u_25))]) [9, 4, 5, 0, 1, 2, 3, 6, 10, 11, 7, 8] (by decide) rfl
              have hFc := va_free (wc := [(h0, .inr (3, [.ref of, .ref e1, .ref e2, .ref e3, .ref e4])), (of, .inr (2, [.ref g1, .ref g2, .ref g3, .ref g4, .ref g5, .int (nI on), .ref g6, .ref g7, .ref g8])), (g1, .inl (E.2.1 0, 7, .inl d1)), (g2, .inl (E.2.1 0, 7, .inl d2)), (g3, .inl (E.2.1 0, 7, .inl d3)), (g4, .inl (E.2.1 0, 7, .inl d4)), (g5, .inl (E.2.1 0, 7, .inl d5)), (g8, .inl (E.2.1 0, 100, .inl d8)), (e1, .inl (E.2.1 0, 512, .inl u_34)), (e2, .inl (E.2.1 0, 512, .inl u_35)), (e3, .inl (E.2.1 0, 896, .inl u_24)), (e4, .inl (E.2.1 0, 896, .inl u_25))]) hD hS hA [9, 4, 5, 0, 1, 2, 3, 6, 10, 11, 7, 8] rfl
              refine va_callv (va_runV (As := [.int (nI cr), .int 6, .int (nI w_17), .int x_37, .int x_11, .int x_14, .int x_40]) (rest := []) ⟨hx, hb, hml, hown, hts⟩ (c_X3_extend6 l E h0 of e1 e2 e3 e4 g1 g2 g3 g4 g5 g6 g7 g8 on d1 d2 d3 d4 d5 d8 cr w_17 x_37 x_11 x_14 x_40 u_34 u_35 u_24 u_25 H.size hcr hwd_18 hd1) (cwV 7 hts gX3_extend_X3_extend rfl rfl rfl hdV_X3_extend ⟨Nat.le_of_ble_eq_true rfl, Nat.le_of_ble_eq_true rfl⟩) ⟨pcW_blind, va_recv hK hPc (ci := 3) (q0 := 0) rfl rfl, (pcW_pre hPc hkn hDc hst hS hFc)⟩ rfl rfl hl.1 rfl (lv_room (Nat.le_of_ble_eq_true rfl)) dX3_extend_176 ⟨Nat.le_of_ble_eq_true rfl, Nat.le_of_ble_eq_true rfl⟩) hS (fun q _ h => hFc q h) hFc (fun u t H1 locs ht hvm hw_42 hB hz1 hk1 hS => ?_)
              obtain ⟨u_43, u_44, u_45, u_46⟩ := u
              obtain ⟨hP1, hD1⟩ := hB
              rw [ht] at hP1
              try dsimp only at hw_42
              obtain ⟨hP, hD⟩ := va_join (wr := []) (w1 := [(h0, .inr (3, [.ref of, .ref e1, .ref e2, .ref e3, .ref e4])), (of, .inr (2, [.ref g1, .ref g2, .ref g3, .ref g4, .ref g5, .int (nI on), .ref g6, .ref g7, .ref g8])), (g1, .inl (E.2.1 0, 7, .inl d1)), (g2, .inl (E.2.1 0, 7, .inl d2)), (g3, .inl (E.2.1 0, 7, .inl d3)), (g4, .inl (E.2.1 0, 7, .inl d4)), (g5, .inl (E.2.1 0, 7, .inl d5)), (g8, .inl (E.2.1 0, 100, .inl d8)), (e1, .inl (E.2.1 0, 512, .inl u_43)), (e2, .inl (E.2.1 0, 512, .inl u_44)), (e3, .inl (E.2.1 0, 896, .inl u_45)), (e4, .inl (E.2.1 0, 896, .inl u_46))]) hP hD [9, 4, 5, 0, 1, 2, 3, 6, 10, 11, 7, 8] [] rfl rfl (by decide) (by decide) hk1 hFc hP1 hD1
              generalize H1 = H at hP hS ⊢
              have hP : va_P E.1 vwCl [(h0, .inr (3, [.ref of, .ref e1, .ref e2, .ref e3, .ref e4])), (of, .inr (2, [.ref g1, .ref g2, .ref g3, .ref g4, .ref g5, .int (nI on), .ref g6, .ref g7, .ref g8])), (g1, .inl (E.2.1 0, 7, .inl d1)), (g2, .inl (E.2.1 0, 7, .inl d2)), (g3, .inl (E.2.1 0, 7, .inl d3)), (g4, .inl (E.2.1 0, 7, .inl d4)), (g5, .inl (E.2.1 0, 7, .inl d5)), (g8, .inl (E.2.1 0, 100, .inl d8)), (e1, .inl (E.2.1 0, 512, .inl u_43)), (e2, .inl (E.2.1 0, 512, .inl u_44)), (e3, .inl (E.2.1 0, 896, .inl u_45)), (e4, .inl (E.2.1 0, 896, .inl u_46))] H := hP
              have hD : va_D A [(h0, .inr (3, [.ref of, .ref e1, .ref e2, .ref e3, .ref e4])), (of, .inr (2, [.ref g1, .ref g2, .ref g3, .ref g4, .ref g5, .int (nI on), .ref g6, .ref g7, .ref g8])), (g1, .inl (E.2.1 0, 7, .inl d1)), (g2, .inl (E.2.1 0, 7, .inl d2)), (g3, .inl (E.2.1 0, 7, .inl d3)), (g4, .inl (E.2.1 0, 7, .inl d4)), (g5, .inl (E.2.1 0, 7, .inl d5)), (g8, .inl (E.2.1 0, 100, .inl d8)), (e1, .inl (E.2.1 0, 512, .inl u_43)), (e2, .inl (E.2.1 0, 512, .inl u_44)), (e3, .inl (E.2.1 0, 896, .inl u_45)), (e4, .inl (E.2.1 0, 896, .inl u_46))] := hD
              refine lv_iinc (v := (nI (k + 1))) (lv' := [(8, .int (nI (k + 1))), (12, .int (nI w_17)), (11, .int x_14), (10, .int x_11), (9, .int r_6), (0, .ref h0), (1, .int (nI cr)), (2, .int 5), (3, .int (nI se_)), (4, .int po_), (5, .int da), (6, .int co_), (7, .int or_)]) hx hb dX3_extend_179 hl (k := 12) rfl (show nI k + 1 = nI (k + 1) from nI_1 k) (by decide) rfl (fun ls hl => ?_)
              refine lv_goto (tgt := 10) hx hb dX3_extend_182 (by decide) ?_
              exact ih (k + 1) u_43 u_44 u_45 u_46 _ _ _ (by omega) (by omega) (hP.sub [0, 1, 2, 3, 4, 5, 6, 7, 8, 9, 10, 11] rfl) (hD.sub [0, 1, 2, 3, 4, 5, 6, 7, 8, 9, 10, 11] (by decide) rfl) hS (lv_sub hl [5, 6, 7, 8, 9, 10, 11, 12, 0] rfl)
        · refine lv_iconst (v := (-1)) hx hb dX3_extend_38 (by decide) ?_
          refine lv_goto (tgt := 55) hx hb dX3_extend_39 (by decide) ?_
          refine lv_istore (lv' := [(9, .int (-1)), (0, .ref h0), (1, .int (nI cr)), (2, .int 5), (3, .int (nI se_)), (4, .int po_), (5, .int da), (6, .int co_), (7, .int or_), (8, .int (nI k))]) hx hb dX3_extend_55 hl (by decide) rfl (fun ls hl => ?_)
          refine lv_iload hx hb dX3_extend_57 (lv_at hl 0 rfl) ?_
          refine lv_iconst (v := (-1)) hx hb dX3_extend_59 (by decide) ?_
          refine lv_icmp_eq (tgt := 179) hx hb dX3_extend_60 (by decide) (fun _ => ?_) (fun c9 => absurd c9 (by decide))
          refine lv_iinc (v := (nI (k + 1))) (lv' := [(8, .int (nI (k + 1))), (9, .int (-1)), (0, .ref h0), (1, .int (nI cr)), (2, .int 5), (3, .int (nI se_)), (4, .int po_), (5, .int da), (6, .int co_), (7, .int or_)]) hx hb dX3_extend_179 hl (k := 9) rfl (show nI k + 1 = nI (k + 1) from nI_1 k) (by decide) rfl (fun ls hl => ?_)
          refine lv_goto (tgt := 10) hx hb dX3_extend_182 (by decide) ?_
          exact ih (k + 1) c1 c2 c3 c4 _ _ _ (by omega) (by omega) (hP.sub [0, 1, 2, 3, 4, 5, 6, 7, 8, 9, 10, 11] rfl) (hD.sub [0, 1, 2, 3, 4, 5, 6, 7, 8, 9, 10, 11] (by decide) rfl) hS (lv_sub hl [2, 3, 4, 5, 6, 7, 8, 9, 0] rfl)
set_option maxHeartbeats 4000000 in
set_option maxRecDepth 100000 in
theorem c_X3_extend5 (l : Launch) (E : vE) (h0 : Nat) (of : Nat) (e1 : Nat) (e2 : Nat) (e3 : Nat) (e4 : Nat) (g1 : Nat) (g2 : Nat) (g3 : Nat) (g4 : Nat) (g5 : Nat) (g6 : Nat) (g7 : Nat) (g8 : Nat) (on : Nat) (d1 : Nat → Int32) (d2 : Nat → Int32) (d3 : Nat → Int32) (d4 : Nat → Int32) (d5 : Nat → Int32) (d8 : Nat → Int32) (cr : Nat) (se_ : Nat) (po_ : Int32) (da : Int32) (co_ : Int32) (or_ : Int32) (c1 : Nat → Int32) (c2 : Nat → Int32) (c3 : Nat → Int32) (c4 : Nat → Int32) (sz : Nat) (hcr : cr < 4) (hse : se_ < 128) (hd1 : ∀ k, k < 7 → inR (d1 k) 0 9 = true) : Met l yX3_extend wsX3_extend ({ frames := 5, cells := 0, slots := 0, locals := 132 }) (pcW E [.ref h0, .int (nI cr), .int 5, .int (nI se_), .int po_, .int da, .int co_, .int or_] sz [(h0, .inr (3, [.ref of, .ref e1, .ref e2, .ref e3, .ref e4])), (of, .inr (2, [.ref g1, .ref g2, .ref g3, .ref g4, .ref g5, .int (nI on), .ref g6, .ref g7, .ref g8])), (g1, .inl (E.2.1 0, 7, .inl d1)), (g2, .inl (E.2.1 0, 7, .inl d2)), (g3, .inl (E.2.1 0, 7, .inl d3)), (g4, .inl (E.2.1 0, 7, .inl d4)), (g5, .inl (E.2.1 0, 7, .inl d5)), (g8, .inl (E.2.1 0, 100, .inl d8)), (e1, .inl (E.2.1 0, 512, .inl c1)), (e2, .inl (E.2.1 0, 512, .inl c2)), (e3, .inl (E.2.1 0, 896, .inl c3)), (e4, .inl (E.2.1 0, 896, .inl c4))]) (va_Qv (fun (u : (Nat → Int32) × (Nat → Int32) × (Nat → Int32) × (Nat → Int32)) => match u with | (c12, c22, c32, c42) => True) (fun (u : (Nat → Int32) × (Nat → Int32) × (Nat → Int32) × (Nat → Int32)) (t : State) => match u with | (c12, c22, c32, c42) => wB E (va_A [(h0, .inr (3, [.ref of, .ref e1, .ref e2, .ref e3, .ref e4])), (of, .inr (2, [.ref g1, .ref g2, .ref g3, .ref g4, .ref g5, .int (nI on), .ref g6, .ref g7, .ref g8])), (g1, .inl (E.2.1 0, 7, .inl d1)), (g2, .inl (E.2.1 0, 7, .inl d2)), (g3, .inl (E.2.1 0, 7, .inl d3)), (g4, .inl (E.2.1 0, 7, .inl d4)), (g5, .inl (E.2.1 0, 7, .inl d5)), (g8, .inl (E.2.1 0, 100, .inl d8)), (e1, .inl (E.2.1 0, 512, .inl c1)), (e2, .inl (E.2.1 0, 512, .inl c2)), (e3, .inl (E.2.1 0, 896, .inl c3)), (e4, .inl (E.2.1 0, 896, .inl c4))] sz) [(h0, .inr (3, [.ref of, .ref e1, .ref e2, .ref e3, .ref e4])), (of, .inr (2, [.ref g1, .ref g2, .ref g3, .ref g4, .ref g5, .int (nI on), .ref g6, .ref g7, .ref g8])), (g1, .inl (E.2.1 0, 7, .inl d1)), (g2, .inl (E.2.1 0, 7, .inl d2)), (g3, .inl (E.2.1 0, 7, .inl d3)), (g4, .inl (E.2.1 0, 7, .inl d4)), (g5, .inl (E.2.1 0, 7, .inl d5)), (g8, .inl (E.2.1 0, 100, .inl d8)), (e1, .inl (E.2.1 0, 512, .inl c12)), (e2, .inl (E.2.1 0, 512, .inl c22)), (e3, .inl (E.2.1 0, 896, .inl c32)), (e4, .inl (E.2.1 0, 896, .inl c42))] t) (va_A [(h0, .inr (3, [.ref of, .ref e1, .ref e2, .ref e3, .ref e4])), (of, .inr (2, [.ref g1, .ref g2, .ref g3, .ref g4, .ref g5, .int (nI on), .ref g6, .ref g7, .ref g8])), (g1, .inl (E.2.1 0, 7, .inl d1)), (g2, .inl (E.2.1 0, 7, .inl d2)), (g3, .inl (E.2.1 0, 7, .inl d3)), (g4, .inl (E.2.1 0, 7, .inl d4)), (g5, .inl (E.2.1 0, 7, .inl d5)), (g8, .inl (E.2.1 0, 100, .inl d8)), (e1, .inl (E.2.1 0, 512, .inl c1)), (e2, .inl (E.2.1 0, 512, .inl c2)), (e3, .inl (E.2.1 0, 896, .inl c3)), (e4, .inl (E.2.1 0, 896, .inl c4))] sz)) 0 0 (va_A [(h0, .inr (3, [.ref of, .ref e1, .ref e2, .ref e3, .ref e4])), (of, .inr (2, [.ref g1, .ref g2, .ref g3, .ref g4, .ref g5, .int (nI on), .ref g6, .ref g7, .ref g8])), (g1, .inl (E.2.1 0, 7, .inl d1)), (g2, .inl (E.2.1 0, 7, .inl d2)), (g3, .inl (E.2.1 0, 7, .inl d3)), (g4, .inl (E.2.1 0, 7, .inl d4)), (g5, .inl (E.2.1 0, 7, .inl d5)), (g8, .inl (E.2.1 0, 100, .inl d8)), (e1, .inl (E.2.1 0, 512, .inl c1)), (e2, .inl (E.2.1 0, 512, .inl c2)), (e3, .inl (E.2.1 0, 896, .inl c3)), (e4, .inl (E.2.1 0, 896, .inl c4))] sz) := by
  refine Met.ofW (cc := cX3_extend) (maxL := 13) (ret := none) (by decide) rfl ?_
  intro p e s m args below meth c s₁ B hml hv
  obtain ⟨rfl, hsz, hP, hkn, hD0, hst⟩ := hv
  have hx := B.exec
  have hb := B.bytes
  have hr := B.returns
  have hts := atoms_spec (ws := wsX3_extend) B.pre
  have hown : s.vm.findClass RX3 = some m.cls := findClass_of_methodNamed B.named
  have hlocks := B.notSynchronized
  subst hsz
  have hD := hD0.self (sz := s.heap.size)
  have hK := hkn.1
  have hAO := hkn.2.2.1
  generalize hAe : va_A [(h0, .inr (3, [.ref of, .ref e1, .ref e2, .ref e3, .ref e4])), (of, .inr (2, [.ref g1, .ref g2, .ref g3, .ref g4, .ref g5, .int (nI on), .ref g6, .ref g7, .ref g8])), (g1, .inl (E.2.1 0, 7, .inl d1)), (g2, .inl (E.2.1 0, 7, .inl d2)), (g3, .inl (E.2.1 0, 7, .inl d3)), (g4, .inl (E.2.1 0, 7, .inl d4)), (g5, .inl (E.2.1 0, 7, .inl d5)), (g8, .inl (E.2.1 0, 100, .inl d8)), (e1, .inl (E.2.1 0, 512, .inl c1)), (e2, .inl (E.2.1 0, 512, .inl c2)), (e3, .inl (E.2.1 0, 896, .inl c3)), (e4, .inl (E.2.1 0, 896, .inl c4))] s.heap.size = A at hD hst ⊢
  have hA : ∀ q : Nat, s.heap.size ≤ q → A q := fun q h => by rw [← hAe]; exact Or.inr h
  have hS : va_S A s.heap s.heap [] := va_S.rf
  have hP : va_P E.1 vwCl [(h0, .inr (3, [.ref of, .ref e1, .ref e2, .ref e3, .ref e4])), (of, .inr (2, [.ref g1, .ref g2, .ref g3, .ref g4, .ref g5, .int (nI on), .ref g6, .ref g7, .ref g8])), (g1, .inl (E.2.1 0, 7, .inl d1)), (g2, .inl (E.2.1 0, 7, .inl d2)), (g3, .inl (E.2.1 0, 7, .inl d3)), (g4, .inl (E.2.1 0, 7, .inl d4)), (g5, .inl (E.2.1 0, 7, .inl d5)), (g8, .inl (E.2.1 0, 100, .inl d8)), (e1, .inl (E.2.1 0, 512, .inl c1)), (e2, .inl (E.2.1 0, 512, .inl c2)), (e3, .inl (E.2.1 0, 896, .inl c3)), (e4, .inl (E.2.1 0, 896, .inl c4))] s.heap := hP
  have hl := lv_entry ([.ref h0, .int (nI cr), .int 5, .int (nI se_), .int po_, .int da, .int co_, .int or_]) (n := 13) (Nat.le_of_ble_eq_true rfl)
  rw [lg_entry_eq]
  generalize (lg_sl ([.ref h0, .int (nI cr), .int 5, .int (nI se_), .int po_, .int da, .int co_, .int or_]) ++ List.replicate (13 - (lg_sl ([.ref h0, .int (nI cr), .int 5, .int (nI se_), .int po_, .int da, .int co_, .int or_])).length) Slot.unset).toArray = ls at hl ⊢
  have hl : lv_has ls 13 [(0, .ref h0), (1, .int (nI cr)), (2, .int 5), (3, .int (nI se_)), (4, .int po_), (5, .int da), (6, .int co_), (7, .int or_)] := hl
  have fl24 := hts (.fieldLink RX3 24 "BoatsHome$Orders" "offers" "LBoatsHome$Offers;") (by first | exact List.mem_of_getElem? (i := 1) rfl | decide +kernel)
  have fl47 := hts (.fieldLink RX3 47 "BoatsHome$Offers" "size" "I") (by first | exact List.mem_of_getElem? (i := 2) rfl | decide +kernel)
  have fl55 := hts (.fieldLink RX3 55 "BoatsHome$Offers" "days" "[I") (by first | exact List.mem_of_getElem? (i := 3) rfl | decide +kernel)
  have fl70 := hts (.fieldLink RX3 70 "BoatsHome$Offers" "to" "[I") (by first | exact List.mem_of_getElem? (i := 4) rfl | decide +kernel)
  have inX2 : ∀ w ∈ u_ws RX2 TX2 9, w ∈ wsX3_extend := by first | exact fun w h9 => (List.mem_cons_of_mem _ (List.mem_append_right _ h9)) | decide +kernel
  have inX3 : ∀ w ∈ u_ws RX3 TX3 5, w ∈ wsX3_extend := by first | exact fun w h9 => (List.mem_cons_of_mem _ (List.mem_append_left _ (List.mem_append_right _ h9))) | decide +kernel
  refine lv_iload_n hx hb dX3_extend_0 rfl (lv_at hl 2 rfl) ?_
  refine lv_bipush (v := 7) hx hb dX3_extend_1 (by decide) ?_
  refine lv_icmp_lt (tgt := 7) hx hb dX3_extend_3 (by decide) (fun _ => ?_) (fun c9 => absurd c9 (by decide))
  refine lv_iconst (v := 0) hx hb dX3_extend_7 (by decide) ?_
  refine lv_istore (lv' := [(8, .int 0), (0, .ref h0), (1, .int (nI cr)), (2, .int 5), (3, .int (nI se_)), (4, .int po_), (5, .int da), (6, .int co_), (7, .int or_)]) hx hb dX3_extend_8 hl (by decide) rfl (fun ls hl => ?_)
  have hPl := hP.sub (ws' := [(h0, .inr (3, [.ref of, .ref e1, .ref e2, .ref e3, .ref e4])), (of, .inr (2, [.ref g1, .ref g2, .ref g3, .ref g4, .ref g5, .int (nI on), .ref g6, .ref g7, .ref g8])), (g1, .inl (E.2.1 0, 7, .inl d1)), (g2, .inl (E.2.1 0, 7, .inl d2)), (g3, .inl (E.2.1 0, 7, .inl d3)), (g4, .inl (E.2.1 0, 7, .inl d4)), (g5, .inl (E.2.1 0, 7, .inl d5)), (g8, .inl (E.2.1 0, 100, .inl d8)), (e1, .inl (E.2.1 0, 512, .inl c1)), (e2, .inl (E.2.1 0, 512, .inl c2)), (e3, .inl (E.2.1 0, 896, .inl c3)), (e4, .inl (E.2.1 0, 896, .inl c4))]) [0, 1, 2, 3, 4, 5, 6, 7, 8, 9, 10, 11] rfl
  have hDl := hD.sub (ws' := [(h0, .inr (3, [.ref of, .ref e1, .ref e2, .ref e3, .ref e4])), (of, .inr (2, [.ref g1, .ref g2, .ref g3, .ref g4, .ref g5, .int (nI on), .ref g6, .ref g7, .ref g8])), (g1, .inl (E.2.1 0, 7, .inl d1)), (g2, .inl (E.2.1 0, 7, .inl d2)), (g3, .inl (E.2.1 0, 7, .inl d3)), (g4, .inl (E.2.1 0, 7, .inl d4)), (g5, .inl (E.2.1 0, 7, .inl d5)), (g8, .inl (E.2.1 0, 100, .inl d8)), (e1, .inl (E.2.1 0, 512, .inl c1)), (e2, .inl (E.2.1 0, 512, .inl c2)), (e3, .inl (E.2.1 0, 896, .inl c3)), (e4, .inl (E.2.1 0, 896, .inl c4))]) [0, 1, 2, 3, 4, 5, 6, 7, 8, 9, 10, 11] (by decide) rfl
  refine lg_extend5 E h0 of e1 e2 e3 e4 g1 g2 g3 g4 g5 g6 g7 g8 on d1 d2 d3 d4 d5 d8 cr se_ po_ da co_ or_ hx hb hml hown hts hkn hst hA hcr hse hd1 (fun n_1 n_2 n_3 n_4 H locs ls  hP hD hS hl => ?_) 8 0 c1 c2 c3 c4 _ _ _ (by omega) (by omega) hPl hDl hS (lv_sub hl [1, 2, 3, 4, 5, 6, 7, 8, 0] rfl)
  have hP : va_P E.1 vwCl [(h0, .inr (3, [.ref of, .ref e1, .ref e2, .ref e3, .ref e4])), (of, .inr (2, [.ref g1, .ref g2, .ref g3, .ref g4, .ref g5, .int (nI on), .ref g6, .ref g7, .ref g8])), (g1, .inl (E.2.1 0, 7, .inl d1)), (g2, .inl (E.2.1 0, 7, .inl d2)), (g3, .inl (E.2.1 0, 7, .inl d3)), (g4, .inl (E.2.1 0, 7, .inl d4)), (g5, .inl (E.2.1 0, 7, .inl d5)), (g8, .inl (E.2.1 0, 100, .inl d8)), (e1, .inl (E.2.1 0, 512, .inl n_1)), (e2, .inl (E.2.1 0, 512, .inl n_2)), (e3, .inl (E.2.1 0, 896, .inl n_3)), (e4, .inl (E.2.1 0, 896, .inl n_4))] H := hP
  have hD : va_D A [(h0, .inr (3, [.ref of, .ref e1, .ref e2, .ref e3, .ref e4])), (of, .inr (2, [.ref g1, .ref g2, .ref g3, .ref g4, .ref g5, .int (nI on), .ref g6, .ref g7, .ref g8])), (g1, .inl (E.2.1 0, 7, .inl d1)), (g2, .inl (E.2.1 0, 7, .inl d2)), (g3, .inl (E.2.1 0, 7, .inl d3)), (g4, .inl (E.2.1 0, 7, .inl d4)), (g5, .inl (E.2.1 0, 7, .inl d5)), (g8, .inl (E.2.1 0, 100, .inl d8)), (e1, .inl (E.2.1 0, 512, .inl n_1)), (e2, .inl (E.2.1 0, 512, .inl n_2)), (e3, .inl (E.2.1 0, 896, .inl n_3)), (e4, .inl (E.2.1 0, 896, .inl n_4))] := hD
  have hP9 := hP.sub (ws' := [(h0, .inr (3, [.ref of, .ref e1, .ref e2, .ref e3, .ref e4])), (of, .inr (2, [.ref g1, .ref g2, .ref g3, .ref g4, .ref g5, .int (nI on), .ref g6, .ref g7, .ref g8])), (g1, .inl (E.2.1 0, 7, .inl d1)), (g2, .inl (E.2.1 0, 7, .inl d2)), (g3, .inl (E.2.1 0, 7, .inl d3)), (g4, .inl (E.2.1 0, 7, .inl d4)), (g5, .inl (E.2.1 0, 7, .inl d5)), (g8, .inl (E.2.1 0, 100, .inl d8)), (e1, .inl (E.2.1 0, 512, .inl n_1)), (e2, .inl (E.2.1 0, 512, .inl n_2)), (e3, .inl (E.2.1 0, 896, .inl n_3)), (e4, .inl (E.2.1 0, 896, .inl n_4))]) [0, 1, 2, 3, 4, 5, 6, 7, 8, 9, 10, 11] rfl
  have hD9 := hD.sub (ws' := [(h0, .inr (3, [.ref of, .ref e1, .ref e2, .ref e3, .ref e4])), (of, .inr (2, [.ref g1, .ref g2, .ref g3, .ref g4, .ref g5, .int (nI on), .ref g6, .ref g7, .ref g8])), (g1, .inl (E.2.1 0, 7, .inl d1)), (g2, .inl (E.2.1 0, 7, .inl d2)), (g3, .inl (E.2.1 0, 7, .inl d3)), (g4, .inl (E.2.1 0, 7, .inl d4)), (g5, .inl (E.2.1 0, 7, .inl d5)), (g8, .inl (E.2.1 0, 100, .inl d8)), (e1, .inl (E.2.1 0, 512, .inl n_1)), (e2, .inl (E.2.1 0, 512, .inl n_2)), (e3, .inl (E.2.1 0, 896, .inl n_3)), (e4, .inl (E.2.1 0, 896, .inl n_4))]) [0, 1, 2, 3, 4, 5, 6, 7, 8, 9, 10, 11] (by decide) rfl
  exact W.vret hx hb hr (fun t ht hW => ⟨⟨(n_1, n_2, n_3, n_4), rfl, trivial, by rw [ht]; exact hP9, hD9⟩, hS.F ht⟩) hS.2.2 dX3_extend_185
set_option maxHeartbeats 4000000 in
set_option maxRecDepth 100000 in
theorem lg_extend4 {p : Program} {l : Launch} {e : Env} {s : State} {m : MethodId} {args : Array Value} {below : List Frame} {meth : Method} {c : Code} {Q : State → Prop} {A : Nat → Prop} (E : vE) (h0 : Nat) (of : Nat) (e1 : Nat) (e2 : Nat) (e3 : Nat) (e4 : Nat) (g1 : Nat) (g2 : Nat) (g3 : Nat) (g4 : Nat) (g5 : Nat) (g6 : Nat) (g7 : Nat) (g8 : Nat) (on : Nat) (d1 : Nat → Int32) (d2 : Nat → Int32) (d3 : Nat → Int32) (d4 : Nat → Int32) (d5 : Nat → Int32) (d8 : Nat → Int32) (cr : Nat) (se_ : Nat) (po_ : Int32) (da : Int32) (co_ : Int32) (or_ : Int32) (hx : p.tables.exec = Jvm.exec) (hb : c.code = cX3_extend) (hml : c.maxLocals = 13) (hown : s.vm.findClass RX3 = some m.cls) (hts : ∀ w ∈ wsX3_extend, w.before args s = true) (hkn : kn E s) (hst : st E A s s.heap) (hA : ∀ q : Nat, s.heap.size ≤ q → A q) (hcr : cr < 4) (hse : se_ < 128) (hd1 : ∀ k, k < 7 → inR (d1 k) 0 9 = true) (kk : ∀ (c1 : Nat → Int32) (c2 : Nat → Int32) (c3 : Nat → Int32) (c4 : Nat → Int32) (H : Heap) (locs : List Loc) (ls : Array Slot), va_P E.1 vwCl [(h0, .inr (3, [.ref of, .ref e1, .ref e2, .ref e3, .ref e4])), (of, .inr (2, [.ref g1, .ref g2, .ref g3, .ref g4, .ref g5, .int (nI on), .ref g6, .ref g7, .ref g8])), (g1, .inl (E.2.1 0, 7, .inl d1)), (g2, .inl (E.2.1 0, 7, .inl d2)), (g3, .inl (E.2.1 0, 7, .inl d3)), (g4, .inl (E.2.1 0, 7, .inl d4)), (g5, .inl (E.2.1 0, 7, .inl d5)), (g8, .inl (E.2.1 0, 100, .inl d8)), (e1, .inl (E.2.1 0, 512, .inl c1)), (e2, .inl (E.2.1 0, 512, .inl c2)), (e3, .inl (E.2.1 0, 896, .inl c3)), (e4, .inl (E.2.1 0, 896, .inl c4))] H → va_D A [(h0, .inr (3, [.ref of, .ref e1, .ref e2, .ref e3, .ref e4])), (of, .inr (2, [.ref g1, .ref g2, .ref g3, .ref g4, .ref g5, .int (nI on), .ref g6, .ref g7, .ref g8])), (g1, .inl (E.2.1 0, 7, .inl d1)), (g2, .inl (E.2.1 0, 7, .inl d2)), (g3, .inl (E.2.1 0, 7, .inl d3)), (g4, .inl (E.2.1 0, 7, .inl d4)), (g5, .inl (E.2.1 0, 7, .inl d5)), (g8, .inl (E.2.1 0, 100, .inl d8)), (e1, .inl (E.2.1 0, 512, .inl c1)), (e2, .inl (E.2.1 0, 512, .inl c2)), (e3, .inl (E.2.1 0, 896, .inl c3)), (e4, .inl (E.2.1 0, 896, .inl c4))] → va_S A s.heap H locs → lv_has ls 13 [(0, .ref h0)] → W p l e ({ frames := 6, cells := 0, slots := 0, locals := 164 }) s m args below meth c H locs 0 0 Q (F0 m 185 ls [])) : ∀ (n0 : Nat) (k : Nat) (c1 : Nat → Int32) (c2 : Nat → Int32) (c3 : Nat → Int32) (c4 : Nat → Int32) (H : Heap) (locs : List Loc) (ls : Array Slot), 7 - k < n0 → (k ≤ 7) → va_P E.1 vwCl [(h0, .inr (3, [.ref of, .ref e1, .ref e2, .ref e3, .ref e4])), (of, .inr (2, [.ref g1, .ref g2, .ref g3, .ref g4, .ref g5, .int (nI on), .ref g6, .ref g7, .ref g8])), (g1, .inl (E.2.1 0, 7, .inl d1)), (g2, .inl (E.2.1 0, 7, .inl d2)), (g3, .inl (E.2.1 0, 7, .inl d3)), (g4, .inl (E.2.1 0, 7, .inl d4)), (g5, .inl (E.2.1 0, 7, .inl d5)), (g8, .inl (E.2.1 0, 100, .inl d8)), (e1, .inl (E.2.1 0, 512, .inl c1)), (e2, .inl (E.2.1 0, 512, .inl c2)), (e3, .inl (E.2.1 0, 896, .inl c3)), (e4, .inl (E.2.1 0, 896, .inl c4))] H → va_D A [(h0, .inr (3, [.ref of, .ref e1, .ref e2, .ref e3, .ref e4])), (of, .inr (2, [.ref g1, .ref g2, .ref g3, .ref g4, .ref g5, .int (nI on), .ref g6, .ref g7, .ref g8])), (g1, .inl (E.2.1 0, 7, .inl d1)), (g2, .inl (E.2.1 0, 7, .inl d2)), (g3, .inl (E.2.1 0, 7, .inl d3)), (g4, .inl (E.2.1 0, 7, .inl d4)), (g5, .inl (E.2.1 0, 7, .inl d5)), (g8, .inl (E.2.1 0, 100, .inl d8)), (e1, .inl (E.2.1 0, 512, .inl c1)), (e2, .inl (E.2.1 0, 512, .inl c2)), (e3, .inl (E.2.1 0, 896, .inl c3)), (e4, .inl (E.2.1 0, 896, .inl c4))] → va_S A s.heap H locs → lv_has ls 13 [(0, .ref h0), (1, .int (nI cr)), (2, .int 4), (3, .int (nI se_)), (4, .int po_), (5, .int da), (6, .int co_), (7, .int or_), (8, .int (nI k))] → W p l e ({ frames := 6, cells := 0, slots := 0, locals := 164 }) s m args below meth c H locs 0 0 Q (F0 m 10 ls []) := by
  have hK := hkn.1
  have hAO := hkn.2.2.1
  have fl24 := hts (.fieldLink RX3 24 "BoatsHome$Orders" "offers" "LBoatsHome$Offers;") (by first | exact List.mem_of_getElem? (i := 1) rfl | decide +kernel)
  have fl47 := hts (.fieldLink RX3 47 "BoatsHome$Offers" "size" "I") (by first | exact List.mem_of_getElem? (i := 2) rfl | decide +kernel)
  have fl55 := hts (.fieldLink RX3 55 "BoatsHome$Offers" "days" "[I") (by first | exact List.mem_of_getElem? (i := 3) rfl | decide +kernel)
  have fl70 := hts (.fieldLink RX3 70 "BoatsHome$Offers" "to" "[I") (by first | exact List.mem_of_getElem? (i := 4) rfl | decide +kernel)
  have inX2 : ∀ w ∈ u_ws RX2 TX2 9, w ∈ wsX3_extend := by first | exact fun w h9 => (List.mem_cons_of_mem _ (List.mem_append_right _ h9)) | decide +kernel
  have inX3 : ∀ w ∈ u_ws RX3 TX3 5, w ∈ wsX3_extend := by first | exact fun w h9 => (List.mem_cons_of_mem _ (List.mem_append_left _ (List.mem_append_right _ h9))) | decide +kernel
  intro n0
  induction n0 with
  | zero =>
    intro k c1 c2 c3 c4 H locs ls hn0
    exact absurd hn0 (Nat.not_lt_zero _)
  | succ n0 ih =>
    intro k c1 c2 c3 c4 H locs ls hn0 hk hP hD hS hl
    refine lv_iload hx hb dX3_extend_10 (lv_at hl 8 rfl) ?_
    refine lv_aload_n hx hb dX3_extend_12 rfl (lv_at hl 0 rfl) ?_
    refine va_get (D := E.1) (ci := 3) (v := .ref of) (C := RX3) (T := TX3) (N := 5) hx hb hts inX3 hown hK hP 0 rfl rfl 0 (by decide) fl24 (fun _ h9 => h9) rfl dX3_extend_13 ?_
    refine va_get (D := E.1) (ci := 2) (v := .int (nI on)) (C := RX2) (T := TX2) (N := 9) hx hb hts inX2 hown hK hP 1 rfl rfl 5 (by decide) fl47 (fun _ h9 => h9) rfl dX3_extend_16 ?_
    refine lv_icmp_ge (tgt := 185) hx hb dX3_extend_19 (by decide) (fun c_1 => ?_) (fun c_1 => ?_)
    · exact kk c1 c2 c3 c4 _ _ _  (hP.sub [0, 1, 2, 3, 4, 5, 6, 7, 8, 9, 10, 11] rfl) (hD.sub [0, 1, 2, 3, 4, 5, 6, 7, 8, 9, 10, 11] (by decide) rfl) hS (lv_sub hl [0] rfl)
    · refine lv_iload hx hb dX3_extend_22 (lv_at hl 8 rfl) ?_
      refine lv_bipush (v := 7) hx hb dX3_extend_24 (by decide) ?_
      refine lv_icmp_ge (tgt := 185) hx hb dX3_extend_26 (by decide) (fun c_2 => ?_) (fun c_2 => ?_)
      · exact kk c1 c2 c3 c4 _ _ _  (hP.sub [0, 1, 2, 3, 4, 5, 6, 7, 8, 9, 10, 11] rfl) (hD.sub [0, 1, 2, 3, 4, 5, 6, 7, 8, 9, 10, 11] (by decide) rfl) hS (lv_sub hl [0] rfl)
      · have hlt : k < 7 := by
          rcases Nat.lt_or_ge k 7 with q | q
          · exact q
          · exact absurd (show (7 : Int32) ≤ nI k from nI_le (a := 7) q (by omega)) c_2
        refine lv_iload_n hx hb dX3_extend_29 rfl (lv_at hl 3 rfl) ?_
        refine lv_iload hx hb dX3_extend_30 (lv_at hl 8 rfl) ?_
        refine lv_ishr hx hb dX3_extend_32 ?_
        refine lv_topi (fun x_3 ex_3 => ?_)
        refine lv_iconst (v := 1) hx hb dX3_extend_33 (by decide) ?_
        refine lv_iand hx hb dX3_extend_34 ?_
        refine lv_topi (fun x_4 ex_4 => ?_)
        refine lv_if_eq (tgt := 42) hx hb dX3_extend_35 (by decide) (fun c_5 => ?_) (fun c_5 => ?_)
        · refine lv_aload_n hx hb dX3_extend_42 rfl (lv_at hl 0 rfl) ?_
          refine va_get (D := E.1) (ci := 3) (v := .ref of) (C := RX3) (T := TX3) (N := 5) hx hb hts inX3 hown hK hP 0 rfl rfl 0 (by decide) fl24 (fun _ h9 => h9) rfl dX3_extend_43 ?_
          refine lv_iload hx hb dX3_extend_46 (lv_at hl 8 rfl) ?_
          refine lv_iload hx hb dX3_extend_48 (lv_at hl 4 rfl) ?_
          refine lv_iload hx hb dX3_extend_50 (lv_at hl 5 rfl) ?_
          have hPc := hP.sub (ws' := [(of, .inr (2, [.ref g1, .ref g2, .ref g3, .ref g4, .ref g5, .int (nI on), .ref g6, .ref g7, .ref g8])), (g1, .inl (E.2.1 0, 7, .inl d1)), (g4, .inl (E.2.1 0, 7, .inl d4)), (g5, .inl (E.2.1 0, 7, .inl d5)), (g8, .inl (E.2.1 0, 100, .inl d8))]) [1, 2, 5, 6, 7] rfl
          have hDc := hD.sub (ws' := [(of, .inr (2, [.ref g1, .ref g2, .ref g3, .ref g4, .ref g5, .int (nI on), .ref g6, .ref g7, .ref g8])), (g1, .inl (E.2.1 0, 7, .inl d1)), (g4, .inl (E.2.1 0, 7, .inl d4)), (g5, .inl (E.2.1 0, 7, .inl d5)), (g8, .inl (E.2.1 0, 100, .inl d8))]) [1, 2, 5, 6, 7] (by decide) rfl
          have hFc := va_free (wc := [(of, .inr (2, [.ref g1, .ref g2, .ref g3, .ref g4, .ref g5, .int (nI on), .ref g6, .ref g7, .ref g8])), (g1, .inl (E.2.1 0, 7, .inl d1)), (g4, .inl (E.2.1 0, 7, .inl d4)), (g5, .inl (E.2.1 0, 7, .inl d5)), (g8, .inl (E.2.1 0, 100, .inl d8))]) hD hS hA [1, 2, 5, 6, 7] rfl
          refine va_calli (va_runV (As := [.int (nI k), .int po_, .int da]) (rest := []) ⟨hx, hb, hml, hown, hts⟩ (c_X2_startOf l E of g1 g2 g3 g4 g5 g6 g7 g8 on d1 d4 d5 d8 k po_ da H.size hlt hd1) (cwV 3 hts gX3_extend_X2_startOf rfl rfl rfl hdV_X2_startOf ⟨Nat.le_of_ble_eq_true rfl, Nat.le_of_ble_eq_true rfl⟩) ⟨pcW_blind, va_recv hK hPc (ci := 2) (q0 := 0) rfl rfl, (pcW_pre hPc hkn hDc hst hS hFc)⟩ rfl rfl hl.1 rfl (lv_room (Nat.le_of_ble_eq_true rfl)) dX3_extend_52 ⟨Nat.le_of_ble_eq_true rfl, Nat.le_of_ble_eq_true rfl⟩) hS (fun q _ h => hFc q h) hFc (fun r_6 u t H1 locs ht hvm hw_7 hB hz1 hk1 hS => ?_)
          obtain ⟨hP1, hD1⟩ := hB
          rw [ht] at hP1
          try dsimp only at hw_7
          obtain ⟨hP, hD⟩ := va_join (wr := [(h0, .inr (3, [.ref of, .ref e1, .ref e2, .ref e3, .ref e4])), (g2, .inl (E.2.1 0, 7, .inl d2)), (g3, .inl (E.2.1 0, 7, .inl d3)), (e1, .inl (E.2.1 0, 512, .inl c1)), (e2, .inl (E.2.1 0, 512, .inl c2)), (e3, .inl (E.2.1 0, 896, .inl c3)), (e4, .inl (E.2.1 0, 896, .inl c4))]) (w1 := [(of, .inr (2, [.ref g1, .ref g2, .ref g3, .ref g4, .ref g5, .int (nI on), .ref g6, .ref g7, .ref g8])), (g1, .inl (E.2.1 0, 7, .inl d1)), (g4, .inl (E.2.1 0, 7, .inl d4)), (g5, .inl (E.2.1 0, 7, .inl d5)), (g8, .inl (E.2.1 0, 100, .inl d8))]) hP hD [1, 2, 5, 6, 7] [0, 3, 4, 8, 9, 10, 11] rfl rfl (by decide) (by decide) hk1 hFc hP1 hD1
          generalize H1 = H at hP hS ⊢
          have hP : va_P E.1 vwCl [(h0, .inr (3, [.ref of, .ref e1, .ref e2, .ref e3, .ref e4])), (g2, .inl (E.2.1 0, 7, .inl d2)), (g3, .inl (E.2.1 0, 7, .inl d3)), (e1, .inl (E.2.1 0, 512, .inl c1)), (e2, .inl (E.2.1 0, 512, .inl c2)), (e3, .inl (E.2.1 0, 896, .inl c3)), (e4, .inl (E.2.1 0, 896, .inl c4)), (of, .inr (2, [.ref g1, .ref g2, .ref g3, .ref g4, .ref g5, .int (nI on), .ref g6, .ref g7, .ref g8])), (g1, .inl (E.2.1 0, 7, .inl d1)), (g4, .inl (E.2.1 0, 7, .inl d4)), (g5, .inl (E.2.1 0, 7, .inl d5)), (g8, .inl (E.2.1 0, 100, .inl d8))] H := hP
          have hD : va_D A [(h0, .inr (3, [.ref of, .ref e1, .ref e2, .ref e3, .ref e4])), (g2, .inl (E.2.1 0, 7, .inl d2)), (g3, .inl (E.2.1 0, 7, .inl d3)), (e1, .inl (E.2.1 0, 512, .inl c1)), (e2, .inl (E.2.1 0, 512, .inl c2)), (e3, .inl (E.2.1 0, 896, .inl c3)), (e4, .inl (E.2.1 0, 896, .inl c4)), (of, .inr (2, [.ref g1, .ref g2, .ref g3, .ref g4, .ref g5, .int (nI on), .ref g6, .ref g7, .ref g8])), (g1, .inl (E.2.1 0, 7, .inl d1)), (g4, .inl (E.2.1 0, 7, .inl d4)), (g5, .inl (E.2.1 0, 7, .inl d5)), (g8, .inl (E.2.1 0, 100, .inl d8))] := hD
          refine lv_istore (lv' := [(9, .int r_6), (0, .ref h0), (1, .int (nI cr)), (2, .int 4), (3, .int (nI se_)), (4, .int po_), (5, .int da), (6, .int co_), (7, .int or_), (8, .int (nI k))]) hx hb dX3_extend_55 hl (by decide) rfl (fun ls hl => ?_)
          refine lv_iload hx hb dX3_extend_57 (lv_at hl 0 rfl) ?_
          refine lv_iconst (v := (-1)) hx hb dX3_extend_59 (by decide) ?_
          refine lv_icmp_eq (tgt := 179) hx hb dX3_extend_60 (by decide) (fun c_8 => ?_) (fun c_8 => ?_)
          · refine lv_iinc (v := (nI (k + 1))) (lv' := [(8, .int (nI (k + 1))), (9, .int r_6), (0, .ref h0), (1, .int (nI cr)), (2, .int 4), (3, .int (nI se_)), (4, .int po_), (5, .int da), (6, .int co_), (7, .int or_)]) hx hb dX3_extend_179 hl (k := 9) rfl (show nI k + 1 = nI (k + 1) from nI_1 k) (by decide) rfl (fun ls hl => ?_)
            refine lv_goto (tgt := 10) hx hb dX3_extend_182 (by decide) ?_
            exact ih (k + 1) c1 c2 c3 c4 _ _ _ (by omega) (by omega) (hP.sub [0, 7, 8, 1, 2, 9, 10, 11, 3, 4, 5, 6] rfl) (hD.sub [0, 7, 8, 1, 2, 9, 10, 11, 3, 4, 5, 6] (by decide) rfl) hS (lv_sub hl [2, 3, 4, 5, 6, 7, 8, 9, 0] rfl)
          · refine lv_iload hx hb dX3_extend_63 (lv_at hl 0 rfl) ?_
            refine lv_aload_n hx hb dX3_extend_65 rfl (lv_at hl 1 rfl) ?_
            refine va_get (D := E.1) (ci := 3) (v := .ref of) (C := RX3) (T := TX3) (N := 5) hx hb hts inX3 hown hK hP 0 rfl rfl 0 (by decide) fl24 (fun _ h9 => h9) rfl dX3_extend_66 ?_
            refine va_get (D := E.1) (ci := 2) (v := .ref g3) (C := RX2) (T := TX2) (N := 9) hx hb hts inX2 hown hK hP 7 rfl rfl 2 (by decide) fl55 (fun _ h9 => h9) rfl dX3_extend_69 ?_
            refine lv_iload hx hb dX3_extend_72 (lv_at hl 9 rfl) ?_
            have hi_9 : vp_in (nI k) 7 := vp_in_nI hlt (by decide)
            refine va_iald hx hb hK hP 2 0 rfl rfl hi_9 dX3_extend_74 ?_
            refine lv_topi (fun x_10 ex_10 => ?_)
            refine lv_iadd hx hb dX3_extend_75 ?_
            refine lv_topi (fun x_11 ex_11 => ?_)
            refine lv_istore (lv' := [(10, .int x_11), (9, .int r_6), (0, .ref h0), (1, .int (nI cr)), (2, .int 4), (3, .int (nI se_)), (4, .int po_), (5, .int da), (6, .int co_), (7, .int or_), (8, .int (nI k))]) hx hb dX3_extend_76 hl (by decide) rfl (fun ls hl => ?_)
            refine lv_iload hx hb dX3_extend_78 (lv_at hl 8 rfl) ?_
            refine lv_aload_n hx hb dX3_extend_80 rfl (lv_at hl 2 rfl) ?_
            refine va_get (D := E.1) (ci := 3) (v := .ref of) (C := RX3) (T := TX3) (N := 5) hx hb hts inX3 hown hK hP 0 rfl rfl 0 (by decide) fl24 (fun _ h9 => h9) rfl dX3_extend_81 ?_
            refine lv_iload hx hb dX3_extend_84 (lv_at hl 10 rfl) ?_
            refine lv_iload hx hb dX3_extend_86 (lv_at hl 6 rfl) ?_
            have hPc := hP.sub (ws' := [(of, .inr (2, [.ref g1, .ref g2, .ref g3, .ref g4, .ref g5, .int (nI on), .ref g6, .ref g7, .ref g8])), (g1, .inl (E.2.1 0, 7, .inl d1)), (g8, .inl (E.2.1 0, 100, .inl d8))]) [7, 8, 11] rfl
            have hDc := hD.sub (ws' := [(of, .inr (2, [.ref g1, .ref g2, .ref g3, .ref g4, .ref g5, .int (nI on), .ref g6, .ref g7, .ref g8])), (g1, .inl (E.2.1 0, 7, .inl d1)), (g8, .inl (E.2.1 0, 100, .inl d8))]) [7, 8, 11] (by decide) rfl
            have hFc := va_free (wc := [(of, .inr (2, [.ref g1, .ref g2, .ref g3, .ref g4, .ref g5, .int (nI on), .ref g6, .ref g7, .ref g8])), (g1, .inl (E.2.1 0, 7, .inl d1)), (g8, .inl (E.2.1 0, 100, .inl d8))]) hD hS hA [7, 8, 11] rfl
            refine va_calli (va_runV (As := [.int (nI k), .int po_]) (rest := [.int co_]) ⟨hx, hb, hml, hown, hts⟩ (c_X2_fareTo l E of g1 g2 g3 g4 g5 g6 g7 g8 on d1 d8 k po_ H.size hlt hd1) (cwV 2 hts gX3_extend_X2_fareTo rfl rfl rfl hdV_X2_fareTo ⟨Nat.le_of_ble_eq_true rfl, Nat.le_of_ble_eq_true rfl⟩) ⟨pcW_blind, va_recv hK hPc (ci := 2) (q0 := 0) rfl rfl, (pcW_pre hPc hkn hDc hst hS hFc)⟩ rfl rfl hl.1 rfl (lv_room (Nat.le_of_ble_eq_true rfl)) dX3_extend_88 ⟨Nat.le_of_ble_eq_true rfl, Nat.le_of_ble_eq_true rfl⟩) hS (fun q _ h => hFc q h) hFc (fun r_12 u t H1 locs ht hvm hw_13 hB hz1 hk1 hS => ?_)
            obtain ⟨hP1, hD1⟩ := hB
            rw [ht] at hP1
            try dsimp only at hw_13
            obtain ⟨hP, hD⟩ := va_join (wr := [(h0, .inr (3, [.ref of, .ref e1, .ref e2, .ref e3, .ref e4])), (g2, .inl (E.2.1 0, 7, .inl d2)), (g3, .inl (E.2.1 0, 7, .inl d3)), (e1, .inl (E.2.1 0, 512, .inl c1)), (e2, .inl (E.2.1 0, 512, .inl c2)), (e3, .inl (E.2.1 0, 896, .inl c3)), (e4, .inl (E.2.1 0, 896, .inl c4)), (g4, .inl (E.2.1 0, 7, .inl d4)), (g5, .inl (E.2.1 0, 7, .inl d5))]) (w1 := [(of, .inr (2, [.ref g1, .ref g2, .ref g3, .ref g4, .ref g5, .int (nI on), .ref g6, .ref g7, .ref g8])), (g1, .inl (E.2.1 0, 7, .inl d1)), (g8, .inl (E.2.1 0, 100, .inl d8))]) hP hD [7, 8, 11] [0, 1, 2, 3, 4, 5, 6, 9, 10] rfl rfl (by decide) (by decide) hk1 hFc hP1 hD1
            generalize H1 = H at hP hS ⊢
            have hP : va_P E.1 vwCl [(h0, .inr (3, [.ref of, .ref e1, .ref e2, .ref e3, .ref e4])), (g2, .inl (E.2.1 0, 7, .inl d2)), (g3, .inl (E.2.1 0, 7, .inl d3)), (e1, .inl (E.2.1 0, 512, .inl c1)), (e2, .inl (E.2.1 0, 512, .inl c2)), (e3, .inl (E.2.1 0, 896, .inl c3)), (e4, .inl (E.2.1 0, 896, .inl c4)), (g4, .inl (E.2.1 0, 7, .inl d4)), (g5, .inl (E.2.1 0, 7, .inl d5)), (of, .inr (2, [.ref g1, .ref g2, .ref g3, .ref g4, .ref g5, .int (nI on), .ref g6, .ref g7, .ref g8])), (g1, .inl (E.2.1 0, 7, .inl d1)), (g8, .inl (E.2.1 0, 100, .inl d8))] H := hP
            have hD : va_D A [(h0, .inr (3, [.ref of, .ref e1, .ref e2, .ref e3, .ref e4])), (g2, .inl (E.2.1 0, 7, .inl d2)), (g3, .inl (E.2.1 0, 7, .inl d3)), (e1, .inl (E.2.1 0, 512, .inl c1)), (e2, .inl (E.2.1 0, 512, .inl c2)), (e3, .inl (E.2.1 0, 896, .inl c3)), (e4, .inl (E.2.1 0, 896, .inl c4)), (g4, .inl (E.2.1 0, 7, .inl d4)), (g5, .inl (E.2.1 0, 7, .inl d5)), (of, .inr (2, [.ref g1, .ref g2, .ref g3, .ref g4, .ref g5, .int (nI on), .ref g6, .ref g7, .ref g8])), (g1, .inl (E.2.1 0, 7, .inl d1)), (g8, .inl (E.2.1 0, 100, .inl d8))] := hD
            refine lv_iadd hx hb dX3_extend_91 ?_
            refine lv_topi (fun x_14 ex_14 => ?_)
            refine lv_istore (lv' := [(11, .int x_14), (10, .int x_11), (9, .int r_6), (0, .ref h0), (1, .int (nI cr)), (2, .int 4), (3, .int (nI se_)), (4, .int po_), (5, .int da), (6, .int co_), (7, .int or_), (8, .int (nI k))]) hx hb dX3_extend_92 hl (by decide) rfl (fun ls hl => ?_)
            refine lv_iload_n hx hb dX3_extend_94 rfl (lv_at hl 6 rfl) ?_
            refine lv_iconst (v := 1) hx hb dX3_extend_95 (by decide) ?_
            refine lv_iload hx hb dX3_extend_96 (lv_at hl 11 rfl) ?_
            refine lv_ishl hx hb dX3_extend_98 ?_
            refine lv_topi (fun x_15 ex_15 => ?_)
            refine lv_ior hx hb dX3_extend_99 ?_
            refine lv_topi (fun x_16 ex_16 => ?_)
            obtain ⟨w_17, hwd_18, ew_19⟩ : ∃ w, w < 128 ∧ x_16 = nI w := by rw [ex_16, ex_15]; exact or_bit hse hlt
            subst ew_19
            refine lv_istore (lv' := [(12, .int (nI w_17)), (11, .int x_14), (10, .int x_11), (9, .int r_6), (0, .ref h0), (1, .int (nI cr)), (2, .int 4), (3, .int (nI se_)), (4, .int po_), (5, .int da), (6, .int co_), (7, .int or_), (8, .int (nI k))]) hx hb dX3_extend_100 hl (by decide) rfl (fun ls hl => ?_)
            refine lv_aload_n hx hb dX3_extend_102 rfl (lv_at hl 4 rfl) ?_
            refine lv_iload hx hb dX3_extend_103 (lv_at hl 0 rfl) ?_
            refine lv_bipush (v := 7) hx hb dX3_extend_105 (by decide) ?_
            refine lv_imul hx hb dX3_extend_107 ?_
            refine lv_topi (fun x_20 ex_20 => ?_)
            obtain rfl : x_20 = nI (w_17 * 7) := ex_20.trans (pk_mul w_17 7)
            refine lv_iload hx hb dX3_extend_108 (lv_at hl 12 rfl) ?_
            refine lv_iadd hx hb dX3_extend_110 ?_
            refine lv_topi (fun x_21 ex_21 => ?_)
            obtain rfl : x_21 = nI ((w_17 * 7) + k) := ex_21.trans (nI_add (w_17 * 7) k)
            refine lv_iload hx hb dX3_extend_111 (lv_at hl 2 rfl) ?_
            refine lv_iload hx hb dX3_extend_113 (lv_at hl 1 rfl) ?_
            have hPc := hP.sub (ws' := [(h0, .inr (3, [.ref of, .ref e1, .ref e2, .ref e3, .ref e4])), (e3, .inl (E.2.1 0, 896, .inl c3)), (e4, .inl (E.2.1 0, 896, .inl c4))]) [0, 5, 6] rfl
            have hDc := hD.sub (ws' := [(h0, .inr (3, [.ref of, .ref e1, .ref e2, .ref e3, .ref e4])), (e3, .inl (E.2.1 0, 896, .inl c3)), (e4, .inl (E.2.1 0, 896, .inl c4))]) [0, 5, 6] (by decide) rfl
            have hFc := va_free (wc := [(h0, .inr (3, [.ref of, .ref e1, .ref e2, .ref e3, .ref e4])), (e3, .inl (E.2.1 0, 896, .inl c3)), (e4, .inl (E.2.1 0, 896, .inl c4))]) hD hS hA [0, 5, 6] rfl
            refine va_calli (va_runV (As := [.int (nI ((w_17 * 7) + k)), .int x_11, .int x_14]) (rest := []) ⟨hx, hb, hml, hown, hts⟩ (c_X3_outdone l E h0 of e1 e2 e3 e4 ((w_17 * 7) + k) x_11 x_14 c3 c4 H.size (by omega)) (cwV 3 hts gX3_extend_X3_outdone rfl rfl rfl hdV_X3_outdone ⟨Nat.le_of_ble_eq_true rfl, Nat.le_of_ble_eq_true rfl⟩) ⟨pcW_blind, va_recv hK hPc (ci := 3) (q0 := 0) rfl rfl, (pcW_pre hPc hkn hDc hst hS hFc)⟩ rfl rfl hl.1 rfl (lv_room (Nat.le_of_ble_eq_true rfl)) dX3_extend_115 ⟨Nat.le_of_ble_eq_true rfl, Nat.le_of_ble_eq_true rfl⟩) hS (fun q _ h => hFc q h) hFc (fun r_22 u t H1 locs ht hvm hw_23 hB hz1 hk1 hS => ?_)
            obtain ⟨u_24, u_25⟩ := u
            obtain ⟨hP1, hD1⟩ := hB
            rw [ht] at hP1
            try dsimp only at hw_23
            obtain ⟨hP, hD⟩ := va_join (wr := [(g2, .inl (E.2.1 0, 7, .inl d2)), (g3, .inl (E.2.1 0, 7, .inl d3)), (e1, .inl (E.2.1 0, 512, .inl c1)), (e2, .inl (E.2.1 0, 512, .inl c2)), (g4, .inl (E.2.1 0, 7, .inl d4)), (g5, .inl (E.2.1 0, 7, .inl d5)), (of, .inr (2, [.ref g1, .ref g2, .ref g3, .ref g4, .ref g5, .int (nI on), .ref g6, .ref g7, .ref g8])), (g1, .inl (E.2.1 0, 7, .inl d1)), (g8, .inl (E.2.1 0, 100, .inl d8))]) (w1 := [(h0, .inr (3, [.ref of, .ref e1, .ref e2, .ref e3, .ref e4])), (e3, .inl (E.2.1 0, 896, .inl u_24)), (e4, .inl (E.2.1 0, 896, .inl u_25))]) hP hD [0, 5, 6] [1, 2, 3, 4, 7, 8, 9, 10, 11] rfl rfl (by decide) (by decide) hk1 hFc hP1 hD1
            generalize H1 = H at hP hS ⊢
            have hP : va_P E.1 vwCl [(g2, .inl (E.2.1 0, 7, .inl d2)), (g3, .inl (E.2.1 0, 7, .inl d3)), (e1, .inl (E.2.1 0, 512, .inl c1)), (e2, .inl (E.2.1 0, 512, .inl c2)), (g4, .inl (E.2.1 0, 7, .inl d4)), (g5, .inl (E.2.1 0, 7, .inl d5)), (of, .inr (2, [.ref g1, .ref g2, .ref g3, .ref g4, .ref g5, .int (nI on), .ref g6, .ref g7, .ref g8])), (g1, .inl (E.2.1 0, 7, .inl d1)), (g8, .inl (E.2.1 0, 100, .inl d8)), (h0, .inr (3, [.ref of, .ref e1, .ref e2, .ref e3, .ref e4])), (e3, .inl (E.2.1 0, 896, .inl u_24)), (e4, .inl (E.2.1 0, 896, .inl u_25))] H := hP
            have hD : va_D A [(g2, .inl (E.2.1 0, 7, .inl d2)), (g3, .inl (E.2.1 0, 7, .inl d3)), (e1, .inl (E.2.1 0, 512, .inl c1)), (e2, .inl (E.2.1 0, 512, .inl c2)), (g4, .inl (E.2.1 0, 7, .inl d4)), (g5, .inl (E.2.1 0, 7, .inl d5)), (of, .inr (2, [.ref g1, .ref g2, .ref g3, .ref g4, .ref g5, .int (nI on), .ref g6, .ref g7, .ref g8])), (g1, .inl (E.2.1 0, 7, .inl d1)), (g8, .inl (E.2.1 0, 100, .inl d8)), (h0, .inr (3, [.ref of, .ref e1, .ref e2, .ref e3, .ref e4])), (e3, .inl (E.2.1 0, 896, .inl u_24)), (e4, .inl (E.2.1 0, 896, .inl u_25))] := hD
            refine lv_if_ne (tgt := 179) hx hb dX3_extend_118 (by decide) (fun c_26 => ?_) (fun c_26 => ?_)
            · refine lv_iinc (v := (nI (k + 1))) (lv' := [(8, .int (nI (k + 1))), (12, .int (nI w_17)), (11, .int x_14), (10, .int x_11), (9, .int r_6), (0, .ref h0), (1, .int (nI cr)), (2, .int 4), (3, .int (nI se_)), (4, .int po_), (5, .int da), (6, .int co_), (7, .int or_)]) hx hb dX3_extend_179 hl (k := 12) rfl (show nI k + 1 = nI (k + 1) from nI_1 k) (by decide) rfl (fun ls hl => ?_)
              refine lv_goto (tgt := 10) hx hb dX3_extend_182 (by decide) ?_
              exact ih (k + 1) c1 c2 u_24 u_25 _ _ _ (by omega) (by omega) (hP.sub [9, 6, 7, 0, 1, 4, 5, 8, 2, 3, 10, 11] rfl) (hD.sub [9, 6, 7, 0, 1, 4, 5, 8, 2, 3, 10, 11] (by decide) rfl) hS (lv_sub hl [5, 6, 7, 8, 9, 10, 11, 12, 0] rfl)
            · refine lv_aload_n hx hb dX3_extend_121 rfl (lv_at hl 4 rfl) ?_
              refine lv_iload_n hx hb dX3_extend_122 rfl (lv_at hl 5 rfl) ?_
              refine lv_sipush (v := 128) hx hb dX3_extend_123 (by decide) ?_
              refine lv_imul hx hb dX3_extend_126 ?_
              refine lv_topi (fun x_27 ex_27 => ?_)
              obtain rfl : x_27 = nI (cr * 128) := ex_27.trans (pk_mul cr 128)
              refine lv_iload hx hb dX3_extend_127 (lv_at hl 0 rfl) ?_
              refine lv_iadd hx hb dX3_extend_129 ?_
              refine lv_topi (fun x_28 ex_28 => ?_)
              obtain rfl : x_28 = nI ((cr * 128) + w_17) := ex_28.trans (nI_add (cr * 128) w_17)
              refine lv_iload hx hb dX3_extend_130 (lv_at hl 1 rfl) ?_
              refine lv_iload hx hb dX3_extend_132 (lv_at hl 11 rfl) ?_
              refine lv_bipush (v := 8) hx hb dX3_extend_134 (by decide) ?_
              refine lv_imul hx hb dX3_extend_136 ?_
              refine lv_topi (fun x_29 ex_29 => ?_)
              refine lv_iload hx hb dX3_extend_137 (lv_at hl 12 rfl) ?_
              refine lv_iadd hx hb dX3_extend_139 ?_
              refine lv_topi (fun x_30 ex_30 => ?_)
              refine lv_iconst (v := 1) hx hb dX3_extend_140 (by decide) ?_
              refine lv_iadd hx hb dX3_extend_141 ?_
              refine lv_topi (fun x_31 ex_31 => ?_)
              have hPc := hP.sub (ws' := [(h0, .inr (3, [.ref of, .ref e1, .ref e2, .ref e3, .ref e4])), (e1, .inl (E.2.1 0, 512, .inl c1)), (e2, .inl (E.2.1 0, 512, .inl c2))]) [9, 2, 3] rfl
              have hDc := hD.sub (ws' := [(h0, .inr (3, [.ref of, .ref e1, .ref e2, .ref e3, .ref e4])), (e1, .inl (E.2.1 0, 512, .inl c1)), (e2, .inl (E.2.1 0, 512, .inl c2))]) [9, 2, 3] (by decide) rfl
              have hFc := va_free (wc := [(h0, .inr (3, [.ref of, .ref e1, .ref e2, .ref e3, .ref e4])), (e1, .inl (E.2.1 0, 512, .inl c1)), (e2, .inl (E.2.1 0, 512, .inl c2))]) hD hS hA [9, 2, 3] rfl
              refine va_callv (va_runV (As := [.int (nI ((cr * 128) + w_17)), .int x_14, .int x_31]) (rest := []) ⟨hx, hb, hml, hown, hts⟩ (c_X3_keep l E h0 of e1 e2 e3 e4 ((cr * 128) + w_17) x_14 x_31 c1 c2 H.size (by omega)) (cwV 3 hts gX3_extend_X3_keep rfl rfl rfl hdV_X3_keep ⟨Nat.le_of_ble_eq_true rfl, Nat.le_of_ble_eq_true rfl⟩) ⟨pcW_blind, va_recv hK hPc (ci := 3) (q0 := 0) rfl rfl, (pcW_pre hPc hkn hDc hst hS hFc)⟩ rfl rfl hl.1 rfl (lv_room (Nat.le_of_ble_eq_true rfl)) dX3_extend_142 ⟨Nat.le_of_ble_eq_true rfl, Nat.le_of_ble_eq_true rfl⟩) hS (fun q _ h => hFc q h) hFc (fun u t H1 locs ht hvm hw_33 hB hz1 hk1 hS => ?_)
              obtain ⟨u_34, u_35⟩ := u
              obtain ⟨hP1, hD1⟩ := hB
              rw [ht] at hP1
              try dsimp only at hw_33
              obtain ⟨hP, hD⟩ := va_join (wr := [(g2, .inl (E.2.1 0, 7, .inl d2)), (g3, .inl (E.2.1 0, 7, .inl d3)), (g4, .inl (E.2.1 0, 7, .inl d4)), (g5, .inl (E.2.1 0, 7, .inl d5)), (of, .inr (2, [.ref g1, .ref g2, .ref g3, .ref g4, .ref g5, .int (nI on), .ref g6, .ref g7, .ref g8])), (g1, .inl (E.2.1 0, 7, .inl d1)), (g8, .inl (E.2.1 0, 100, .inl d8)), (e3, .inl (E.2.1 0, 896, .inl u_24)), (e4, .inl (E.2.1 0, 896, .inl u_25))]) (w1 := [(h0, .inr (3, [.ref of, .ref e1, .ref e2, .ref e3, .ref e4])), (e1, .inl (E.2.1 0, 512, .inl u_34)), (e2, .inl (E.2.1 0, 512, .inl u_35))]) hP hD [9, 2, 3] [0, 1, 4, 5, 6, 7, 8, 10, 11] rfl rfl (by decide) (by decide) hk1 hFc hP1 hD1
              generalize H1 = H at hP hS ⊢
              have hP : va_P E.1 vwCl [(g2, .inl (E.2.1 0, 7, .inl d2)), (g3, .inl (E.2.1 0, 7, .inl d3)), (g4, .inl (E.2.1 0, 7, .inl d4)), (g5, .inl (E.2.1 0, 7, .inl d5)), (of, .inr (2, [.ref g1, .ref g2, .ref g3, .ref g4, .ref g5, .int (nI on), .ref g6, .ref g7, .ref g8])), (g1, .inl (E.2.1 0, 7, .inl d1)), (g8, .inl (E.2.1 0, 100, .inl d8)), (e3, .inl (E.2.1 0, 896, .inl u_24)), (e4, .inl (E.2.1 0, 896, .inl u_25)), (h0, .inr (3, [.ref of, .ref e1, .ref e2, .ref e3, .ref e4])), (e1, .inl (E.2.1 0, 512, .inl u_34)), (e2, .inl (E.2.1 0, 512, .inl u_35))] H := hP
              have hD : va_D A [(g2, .inl (E.2.1 0, 7, .inl d2)), (g3, .inl (E.2.1 0, 7, .inl d3)), (g4, .inl (E.2.1 0, 7, .inl d4)), (g5, .inl (E.2.1 0, 7, .inl d5)), (of, .inr (2, [.ref g1, .ref g2, .ref g3, .ref g4, .ref g5, .int (nI on), .ref g6, .ref g7, .ref g8])), (g1, .inl (E.2.1 0, 7, .inl d1)), (g8, .inl (E.2.1 0, 100, .inl d8)), (e3, .inl (E.2.1 0, 896, .inl u_24)), (e4, .inl (E.2.1 0, 896, .inl u_25)), (h0, .inr (3, [.ref of, .ref e1, .ref e2, .ref e3, .ref e4])), (e1, .inl (E.2.1 0, 512, .inl u_34)), (e2, .inl (E.2.1 0, 512, .inl u_35))] := hD
              refine lv_aload_n hx hb dX3_extend_145 rfl (lv_at hl 4 rfl) ?_
              refine lv_iload_n hx hb dX3_extend_146 rfl (lv_at hl 5 rfl) ?_
              refine lv_iload_n hx hb dX3_extend_147 rfl (lv_at hl 6 rfl) ?_
              refine lv_iconst (v := 1) hx hb dX3_extend_148 (by decide) ?_
              refine lv_iadd hx hb dX3_extend_149 ?_
              refine lv_topi (fun x_36 ex_36 => ?_)
              obtain rfl : x_36 = 5 := ex_36.trans (by decide +kernel)
              refine lv_iload hx hb dX3_extend_150 (lv_at hl 0 rfl) ?_
              refine lv_aload_n hx hb dX3_extend_152 rfl (lv_at hl 4 rfl) ?_
              refine va_get (D := E.1) (ci := 3) (v := .ref of) (C := RX3) (T := TX3) (N := 5) hx hb hts inX3 hown hK hP 9 rfl rfl 0 (by decide) fl24 (fun _ h9 => h9) rfl dX3_extend_153 ?_
              refine va_get (D := E.1) (ci := 2) (v := .ref g2) (C := RX2) (T := TX2) (N := 9) hx hb hts inX2 hown hK hP 4 rfl rfl 1 (by decide) fl70 (fun _ h9 => h9) rfl dX3_extend_156 ?_
              refine lv_iload hx hb dX3_extend_159 (lv_at hl 12 rfl) ?_
              refine va_iald hx hb hK hP 0 0 rfl rfl hi_9 dX3_extend_161 ?_
              refine lv_topi (fun x_37 ex_37 => ?_)
              refine lv_iload hx hb dX3_extend_162 (lv_at hl 2 rfl) ?_
              refine lv_iload hx hb dX3_extend_164 (lv_at hl 1 rfl) ?_
              refine lv_iload hx hb dX3_extend_166 (lv_at hl 11 rfl) ?_
              refine lv_bipush (v := 8) hx hb dX3_extend_168 (by decide) ?_
              refine lv_imul hx hb dX3_extend_170 ?_
              refine lv_topi (fun x_38 ex_38 => ?_)
              refine lv_iload hx hb dX3_extend_171 (lv_at hl 12 rfl) ?_
              refine lv_iadd hx hb dX3_extend_173 ?_
              refine lv_topi (fun x_39 ex_39 => ?_)
              refine lv_iconst (v := 1) hx hb dX3_extend_174 (by decide) ?_
              refine lv_iadd hx hb dX3_extend_175 ?_
              refine lv_topi (fun x_40 ex_40 => ?_)
              have hPc := hP.sub (ws' := [(h0, .inr (3, [.ref of, .ref e1, .ref e2, .ref e3, .ref e4])), (of, .inr (2, [.ref g1, .ref g2, .ref g3, .ref g4, .ref g5, .int (nI on), .ref g6, .ref g7, .ref g8])), (g1, .inl (E.2.1 0, 7, .inl d1)), (g2, .inl (E.2.1 0, 7, .inl d2)), (g3, .inl (E.2.1 0, 7, .inl d3)), (g4, .inl (E.2.1 0, 7, .inl d4)), (g5, .inl (E.2.1 0, 7, .inl d5)), (g8, .inl (E.2.1 0, 100, .inl d8)), (e1, .inl (E.2.1 0, 512, .inl u_34)), (e2, .inl (E.2.1 0, 512, .inl u_35)), (e3, .inl (E.2.1 0, 896, .inl u_24)), (e4, .inl (E.2.1 0, 896, .inl u_25))]) [9, 4, 5, 0, 1, 2, 3, 6, 10, 11, 7, 8] rfl
              have hDc := hD.sub (ws' := [(h0, .inr (3, [.ref of, .ref e1, .ref e2, .ref e3, .ref e4])), (of, .inr (2, [.ref g1, .ref g2, .ref g3, .ref g4, .ref g5, .int (nI on), .ref g6, .ref g7, .ref g8])), (g1, .inl (E.2.1 0, 7, .inl d1)), (g2, .inl (E.2.1 0, 7, .inl d2)), (g3, .inl (E.2.1 0, 7, .inl d3)), (g4, .inl (E.2.1 0, 7, .inl d4)), (g5, .inl (E.2.1 0, 7, .inl d5)), (g8, .inl (E.2.1 0, 100, .inl d8)), (e1, .inl (E.2.1 0, 512, .inl u_34)), (e2, .inl (E.2.1 0, 512, .inl u_35)), (e3, .inl (E.2.1 0, 896, .inl u_24)), (e4, .inl (E.2.1 0, 896, .inl u_25))]) [9, 4, 5, 0, 1, 2, 3, 6, 10, 11, 7, 8] (by decide) rfl
              have hFc := va_free (wc := [(h0, .inr (3, [.ref of, .ref e1, .ref e2, .ref e3, .ref e4])), (of, .inr (2, [.ref g1, .ref g2, .ref g3, .ref g4, .ref g5, .int (nI on), .ref g6, .ref g7, .ref g8])), (g1, .inl (E.2.1 0, 7, .inl d1)), (g2, .inl (E.2.1 0, 7, .inl d2)), (g3, .inl (E.2.1 0, 7, .inl d3)), (g4, .inl (E.2.1 0, 7, .inl d4)), (g5, .inl (E.2.1 0, 7, .inl d5)), (g8, .inl (E.2.1 0, 100, .inl d8)), (e1, .inl (E.2.1 0, 512, .inl u_34)), (e2, .inl (E.2.1 0, 512, .inl u_35)), (e3, .inl (E.2.1 0, 896, .inl u_24)), (e4, .inl (E.2.1 0, 896, .inl u_25))]) hD hS hA [9, 4, 5, 0, 1, 2, 3, 6, 10, 11, 7, 8] rfl
              refine va_callv (va_runV (As := [.int (nI cr), .int 5, .int (nI w_17), .int x_37, .int x_11, .int x_14, .int x_40]) (rest := []) ⟨hx, hb, hml, hown, hts⟩ (c_X3_extend5 l E h0 of e1 e2 e3 e4 g1 g2 g3 g4 g5 g6 g7 g8 on d1 d2 d3 d4 d5 d8 cr w_17 x_37 x_11 x_14 x_40 u_34 u_35 u_24 u_25 H.size hcr hwd_18 hd1) (cwV 7 hts gX3_extend_X3_extend rfl rfl rfl hdV_X3_extend ⟨Nat.le_of_ble_eq_true rfl, Nat.le_of_ble_eq_true rfl⟩) ⟨pcW_blind, va_recv hK hPc (ci := 3) (q0 := 0) rfl rfl, (pcW_pre hPc hkn hDc hst hS hFc)⟩ rfl rfl hl.1 rfl (lv_room (Nat.le_of_ble_eq_true rfl)) dX3_extend_176 ⟨Nat.le_of_ble_eq_true rfl, Nat.le_of_ble_eq_true rfl⟩) hS (fun q _ h => hFc q h) hFc (fun u t H1 locs ht hvm hw_42 hB hz1 hk1 hS => ?_)
              obtain ⟨u_43, u_44, u_45, u_46⟩ := u
              obtain ⟨hP1, hD1⟩ := hB
              rw [ht] at hP1
              try dsimp only at hw_42
              obtain ⟨hP, hD⟩ := va_join (wr := []) (w1 := [(h0, .inr (3, [.ref of, .ref e1, .ref e2, .ref e3, .ref e4])), (of, .inr (2, [.ref g1, .ref g2, .ref g3, .ref g4, .ref g5, .int (nI on), .ref g6, .ref g7, .ref g8])), (g1, .inl (E.2.1 0, 7, .inl d1)), (g2, .inl (E.2.1 0, 7, .inl d2)), (g3, .inl (E.2.1 0, 7, .inl d3)), (g4, .inl (E.2.1 0, 7, .inl d4)), (g5, .inl (E.2.1 0, 7, .inl d5)), (g8, .inl (E.2.1 0, 100, .inl d8)), (e1, .inl (E.2.1 0, 512, .inl u_43)), (e2, .inl (E.2.1 0, 512, .inl u_44)), (e3, .inl (E.2.1 0, 896, .inl u_45)), (e4, .inl (E.2.1 0, 896, .inl u_46))]) hP hD [9, 4, 5, 0, 1, 2, 3, 6, 10, 11, 7, 8] [] rfl rfl (by decide) (by decide) hk1 hFc hP1 hD1
              generalize H1 = H at hP hS ⊢
              have hP : va_P E.1 vwCl [(h0, .inr (3, [.ref of, .ref e1, .ref e2, .ref e3, .ref e4])), (of, .inr (2, [.ref g1, .ref g2, .ref g3, .ref g4, .ref g5, .int (nI on), .ref g6, .ref g7, .ref g8])), (g1, .inl (E.2.1 0, 7, .inl d1)), (g2, .inl (E.2.1 0, 7, .inl d2)), (g3, .inl (E.2.1 0, 7, .inl d3)), (g4, .inl (E.2.1 0, 7, .inl d4)), (g5, .inl (E.2.1 0, 7, .inl d5)), (g8, .inl (E.2.1 0, 100, .inl d8)), (e1, .inl (E.2.1 0, 512, .inl u_43)), (e2, .inl (E.2.1 0, 512, .inl u_44)), (e3, .inl (E.2.1 0, 896, .inl u_45)), (e4, .inl (E.2.1 0, 896, .inl u_46))] H := hP
              have hD : va_D A [(h0, .inr (3, [.ref of, .ref e1, .ref e2, .ref e3, .ref e4])), (of, .inr (2, [.ref g1, .ref g2, .ref g3, .ref g4, .ref g5, .int (nI on), .ref g6, .ref g7, .ref g8])), (g1, .inl (E.2.1 0, 7, .inl d1)), (g2, .inl (E.2.1 0, 7, .inl d2)), (g3, .inl (E.2.1 0, 7, .inl d3)), (g4, .inl (E.2.1 0, 7, .inl d4)), (g5, .inl (E.2.1 0, 7, .inl d5)), (g8, .inl (E.2.1 0, 100, .inl d8)), (e1, .inl (E.2.1 0, 512, .inl u_43)), (e2, .inl (E.2.1 0, 512, .inl u_44)), (e3, .inl (E.2.1 0, 896, .inl u_45)), (e4, .inl (E.2.1 0, 896, .inl u_46))] := hD
              refine lv_iinc (v := (nI (k + 1))) (lv' := [(8, .int (nI (k + 1))), (12, .int (nI w_17)), (11, .int x_14), (10, .int x_11), (9, .int r_6), (0, .ref h0), (1, .int (nI cr)), (2, .int 4), (3, .int (nI se_)), (4, .int po_), (5, .int da), (6, .int co_), (7, .int or_)]) hx hb dX3_extend_179 hl (k := 12) rfl (show nI k + 1 = nI (k + 1) from nI_1 k) (by decide) rfl (fun ls hl => ?_)
              refine lv_goto (tgt := 10) hx hb dX3_extend_182 (by decide) ?_
              exact ih (k + 1) u_43 u_44 u_45 u_46 _ _ _ (by omega) (by omega) (hP.sub [0, 1, 2, 3, 4, 5, 6, 7, 8, 9, 10, 11] rfl) (hD.sub [0, 1, 2, 3, 4, 5, 6, 7, 8, 9, 10, 11] (by decide) rfl) hS (lv_sub hl [5, 6, 7, 8, 9, 10, 11, 12, 0] rfl)
        · refine lv_iconst (v := (-1)) hx hb dX3_extend_38 (by decide) ?_
          refine lv_goto (tgt := 55) hx hb dX3_extend_39 (by decide) ?_
          refine lv_istore (lv' := [(9, .int (-1)), (0, .ref h0), (1, .int (nI cr)), (2, .int 4), (3, .int (nI se_)), (4, .int po_), (5, .int da), (6, .int co_), (7, .int or_), (8, .int (nI k))]) hx hb dX3_extend_55 hl (by decide) rfl (fun ls hl => ?_)
          refine lv_iload hx hb dX3_extend_57 (lv_at hl 0 rfl) ?_
          refine lv_iconst (v := (-1)) hx hb dX3_extend_59 (by decide) ?_
          refine lv_icmp_eq (tgt := 179) hx hb dX3_extend_60 (by decide) (fun _ => ?_) (fun c9 => absurd c9 (by decide))
          refine lv_iinc (v := (nI (k + 1))) (lv' := [(8, .int (nI (k + 1))), (9, .int (-1)), (0, .ref h0), (1, .int (nI cr)), (2, .int 4), (3, .int (nI se_)), (4, .int po_), (5, .int da), (6, .int co_), (7, .int or_)]) hx hb dX3_extend_179 hl (k := 9) rfl (show nI k + 1 = nI (k + 1) from nI_1 k) (by decide) rfl (fun ls hl => ?_)
          refine lv_goto (tgt := 10) hx hb dX3_extend_182 (by decide) ?_
          exact ih (k + 1) c1 c2 c3 c4 _ _ _ (by omega) (by omega) (hP.sub [0, 1, 2, 3, 4, 5, 6, 7, 8, 9, 10, 11] rfl) (hD.sub [0, 1, 2, 3, 4, 5, 6, 7, 8, 9, 10, 11] (by decide) rfl) hS (lv_sub hl [2, 3, 4, 5, 6, 7, 8, 9, 0] rfl)
set_option maxHeartbeats 4000000 in
set_option maxRecDepth 100000 in
theorem c_X3_extend4 (l : Launch) (E : vE) (h0 : Nat) (of : Nat) (e1 : Nat) (e2 : Nat) (e3 : Nat) (e4 : Nat) (g1 : Nat) (g2 : Nat) (g3 : Nat) (g4 : Nat) (g5 : Nat) (g6 : Nat) (g7 : Nat) (g8 : Nat) (on : Nat) (d1 : Nat → Int32) (d2 : Nat → Int32) (d3 : Nat → Int32) (d4 : Nat → Int32) (d5 : Nat → Int32) (d8 : Nat → Int32) (cr : Nat) (se_ : Nat) (po_ : Int32) (da : Int32) (co_ : Int32) (or_ : Int32) (c1 : Nat → Int32) (c2 : Nat → Int32) (c3 : Nat → Int32) (c4 : Nat → Int32) (sz : Nat) (hcr : cr < 4) (hse : se_ < 128) (hd1 : ∀ k, k < 7 → inR (d1 k) 0 9 = true) : Met l yX3_extend wsX3_extend ({ frames := 6, cells := 0, slots := 0, locals := 164 }) (pcW E [.ref h0, .int (nI cr), .int 4, .int (nI se_), .int po_, .int da, .int co_, .int or_] sz [(h0, .inr (3, [.ref of, .ref e1, .ref e2, .ref e3, .ref e4])), (of, .inr (2, [.ref g1, .ref g2, .ref g3, .ref g4, .ref g5, .int (nI on), .ref g6, .ref g7, .ref g8])), (g1, .inl (E.2.1 0, 7, .inl d1)), (g2, .inl (E.2.1 0, 7, .inl d2)), (g3, .inl (E.2.1 0, 7, .inl d3)), (g4, .inl (E.2.1 0, 7, .inl d4)), (g5, .inl (E.2.1 0, 7, .inl d5)), (g8, .inl (E.2.1 0, 100, .inl d8)), (e1, .inl (E.2.1 0, 512, .inl c1)), (e2, .inl (E.2.1 0, 512, .inl c2)), (e3, .inl (E.2.1 0, 896, .inl c3)), (e4, .inl (E.2.1 0, 896, .inl c4))]) (va_Qv (fun (u : (Nat → Int32) × (Nat → Int32) × (Nat → Int32) × (Nat → Int32)) => match u with | (c12, c22, c32, c42) => True) (fun (u : (Nat → Int32) × (Nat → Int32) × (Nat → Int32) × (Nat → Int32)) (t : State) => match u with | (c12, c22, c32, c42) => wB E (va_A [(h0, .inr (3, [.ref of, .ref e1, .ref e2, .ref e3, .ref e4])), (of, .inr (2, [.ref g1, .ref g2, .ref g3, .ref g4, .ref g5, .int (nI on), .ref g6, .ref g7, .ref g8])), (g1, .inl (E.2.1 0, 7, .inl d1)), (g2, .inl (E.2.1 0, 7, .inl d2)), (g3, .inl (E.2.1 0, 7, .inl d3)), (g4, .inl (E.2.1 0, 7, .inl d4)), (g5, .inl (E.2.1 0, 7, .inl d5)), (g8, .inl (E.2.1 0, 100, .inl d8)), (e1, .inl (E.2.1 0, 512, .inl c1)), (e2, .inl (E.2.1 0, 512, .inl c2)), (e3, .inl (E.2.1 0, 896, .inl c3)), (e4, .inl (E.2.1 0, 896, .inl c4))] sz) [(h0, .inr (3, [.ref of, .ref e1, .ref e2, .ref e3, .ref e4])), (of, .inr (2, [.ref g1, .ref g2, .ref g3, .ref g4, .ref g5, .int (nI on), .ref g6, .ref g7, .ref g8])), (g1, .inl (E.2.1 0, 7, .inl d1)), (g2, .inl (E.2.1 0, 7, .inl d2)), (g3, .inl (E.2.1 0, 7, .inl d3)), (g4, .inl (E.2.1 0, 7, .inl d4)), (g5, .inl (E.2.1 0, 7, .inl d5)), (g8, .inl (E.2.1 0, 100, .inl d8)), (e1, .inl (E.2.1 0, 512, .inl c12)), (e2, .inl (E.2.1 0, 512, .inl c22)), (e3, .inl (E.2.1 0, 896, .inl c32)), (e4, .inl (E.2.1 0, 896, .inl c42))] t) (va_A [(h0, .inr (3, [.ref of, .ref e1, .ref e2, .ref e3, .ref e4])), (of, .inr (2, [.ref g1, .ref g2, .ref g3, .ref g4, .ref g5, .int (nI on), .ref g6, .ref g7, .ref g8])), (g1, .inl (E.2.1 0, 7, .inl d1)), (g2, .inl (E.2.1 0, 7, .inl d2)), (g3, .inl (E.2.1 0, 7, .inl d3)), (g4, .inl (E.2.1 0, 7, .inl d4)), (g5, .inl (E.2.1 0, 7, .inl d5)), (g8, .inl (E.2.1 0, 100, .inl d8)), (e1, .inl (E.2.1 0, 512, .inl c1)), (e2, .inl (E.2.1 0, 512, .inl c2)), (e3, .inl (E.2.1 0, 896, .inl c3)), (e4, .inl (E.2.1 0, 896, .inl c4))] sz)) 0 0 (va_A [(h0, .inr (3, [.ref of, .ref e1, .ref e2, .ref e3, .ref e4])), (of, .inr (2, [.ref g1, .ref g2, .ref g3, .ref g4, .ref g5, .int (nI on), .ref g6, .ref g7, .ref g8])), (g1, .inl (E.2.1 0, 7, .inl d1)), (g2, .inl (E.2.1 0, 7, .inl d2)), (g3, .inl (E.2.1 0, 7, .inl d3)), (g4, .inl (E.2.1 0, 7, .inl d4)), (g5, .inl (E.2.1 0, 7, .inl d5)), (g8, .inl (E.2.1 0, 100, .inl d8)), (e1, .inl (E.2.1 0, 512, .inl c1)), (e2, .inl (E.2.1 0, 512, .inl c2)), (e3, .inl (E.2.1 0, 896, .inl c3)), (e4, .inl (E.2.1 0, 896, .inl c4))] sz) := by
  refine Met.ofW (cc := cX3_extend) (maxL := 13) (ret := none) (by decide) rfl ?_
  intro p e s m args below meth c s₁ B hml hv
  obtain ⟨rfl, hsz, hP, hkn, hD0, hst⟩ := hv
  have hx := B.exec
  have hb := B.bytes
  have hr := B.returns
  have hts := atoms_spec (ws := wsX3_extend) B.pre
  have hown : s.vm.findClass RX3 = some m.cls := findClass_of_methodNamed B.named
  have hlocks := B.notSynchronized
  subst hsz
  have hD := hD0.self (sz := s.heap.size)
  have hK := hkn.1
  have hAO := hkn.2.2.1
  generalize hAe : va_A [(h0, .inr (3, [.ref of, .ref e1, .ref e2, .ref e3, .ref e4])), (of, .inr (2, [.ref g1, .ref g2, .ref g3, .ref g4, .ref g5, .int (nI on), .ref g6, .ref g7, .ref g8])), (g1, .inl (E.2.1 0, 7, .inl d1)), (g2, .inl (E.2.1 0, 7, .inl d2)), (g3, .inl (E.2.1 0, 7, .inl d3)), (g4, .inl (E.2.1 0, 7, .inl d4)), (g5, .inl (E.2.1 0, 7, .inl d5)), (g8, .inl (E.2.1 0, 100, .inl d8)), (e1, .inl (E.2.1 0, 512, .inl c1)), (e2, .inl (E.2.1 0, 512, .inl c2)), (e3, .inl (E.2.1 0, 896, .inl c3)), (e4, .inl (E.2.1 0, 896, .inl c4))] s.heap.size = A at hD hst ⊢
  have hA : ∀ q : Nat, s.heap.size ≤ q → A q := fun q h => by rw [← hAe]; exact Or.inr h
  have hS : va_S A s.heap s.heap [] := va_S.rf
  have hP : va_P E.1 vwCl [(h0, .inr (3, [.ref of, .ref e1, .ref e2, .ref e3, .ref e4])), (of, .inr (2, [.ref g1, .ref g2, .ref g3, .ref g4, .ref g5, .int (nI on), .ref g6, .ref g7, .ref g8])), (g1, .inl (E.2.1 0, 7, .inl d1)), (g2, .inl (E.2.1 0, 7, .inl d2)), (g3, .inl (E.2.1 0, 7, .inl d3)), (g4, .inl (E.2.1 0, 7, .inl d4)), (g5, .inl (E.2.1 0, 7, .inl d5)), (g8, .inl (E.2.1 0, 100, .inl d8)), (e1, .inl (E.2.1 0, 512, .inl c1)), (e2, .inl (E.2.1 0, 512, .inl c2)), (e3, .inl (E.2.1 0, 896, .inl c3)), (e4, .inl (E.2.1 0, 896, .inl c4))] s.heap := hP
  have hl := lv_entry ([.ref h0, .int (nI cr), .int 4, .int (nI se_), .int po_, .int da, .int co_, .int or_]) (n := 13) (Nat.le_of_ble_eq_true rfl)
  rw [lg_entry_eq]
  generalize (lg_sl ([.ref h0, .int (nI cr), .int 4, .int (nI se_), .int po_, .int da, .int co_, .int or_]) ++ List.replicate (13 - (lg_sl ([.ref h0, .int (nI cr), .int 4, .int (nI se_), .int po_, .int da, .int co_, .int or_])).length) Slot.unset).toArray = ls at hl ⊢
  have hl : lv_has ls 13 [(0, .ref h0), (1, .int (nI cr)), (2, .int 4), (3, .int (nI se_)), (4, .int po_), (5, .int da), (6, .int co_), (7, .int or_)] := hl
  have fl24 := hts (.fieldLink RX3 24 "BoatsHome$Orders" "offers" "LBoatsHome$Offers;") (by first | exact List.mem_of_getElem? (i := 1) rfl | decide +kernel)
  have fl47 := hts (.fieldLink RX3 47 "BoatsHome$Offers" "size" "I") (by first | exact List.mem_of_getElem? (i := 2) rfl | decide +kernel)
  have fl55 := hts (.fieldLink RX3 55 "BoatsHome$Offers" "days" "[I") (by first | exact List.mem_of_getElem? (i := 3) rfl | decide +kernel)
  have fl70 := hts (.fieldLink RX3 70 "BoatsHome$Offers" "to" "[I") (by first | exact List.mem_of_getElem? (i := 4) rfl | decide +kernel)
  have inX2 : ∀ w ∈ u_ws RX2 TX2 9, w ∈ wsX3_extend := by first | exact fun w h9 => (List.mem_cons_of_mem _ (List.mem_append_right _ h9)) | decide +kernel
  have inX3 : ∀ w ∈ u_ws RX3 TX3 5, w ∈ wsX3_extend := by first | exact fun w h9 => (List.mem_cons_of_mem _ (List.mem_append_left _ (List.mem_append_right _ h9))) | decide +kernel
  refine lv_iload_n hx hb dX3_extend_0 rfl (lv_at hl 2 rfl) ?_
  refine lv_bipush (v := 7) hx hb dX3_extend_1 (by decide) ?_
  refine lv_icmp_lt (tgt := 7) hx hb dX3_extend_3 (by decide) (fun _ => ?_) (fun c9 => absurd c9 (by decide))
  refine lv_iconst (v := 0) hx hb dX3_extend_7 (by decide) ?_
  refine lv_istore (lv' := [(8, .int 0), (0, .ref h0), (1, .int (nI cr)), (2, .int 4), (3, .int (nI se_)), (4, .int po_), (5, .int da), (6, .int co_), (7, .int or_)]) hx hb dX3_extend_8 hl (by decide) rfl (fun ls hl => ?_)
  have hPl := hP.sub (ws' := [(h0, .inr (3, [.ref of, .ref e1, .ref e2, .ref e3, .ref e4])), (of, .inr (2, [.ref g1, .ref g2, .ref g3, .ref g4, .ref g5, .int (nI on), .ref g6, .ref g7, .ref g8])), (g1, .inl (E.2.1 0, 7, .inl d1)), (g2, .inl (E.2.1 0, 7, .inl d2)), (g3, .inl (E.2.1 0, 7, .inl d3)), (g4, .inl (E.2.1 0, 7, .inl d4)), (g5, .inl (E.2.1 0, 7, .inl d5)), (g8, .inl (E.2.1 0, 100, .inl d8)), (e1, .inl (E.2.1 0, 512, .inl c1)), (e2, .inl (E.2.1 0, 512, .inl c2)), (e3, .inl (E.2.1 0, 896, .inl c3)), (e4, .inl (E.2.1 0, 896, .inl c4))]) [0, 1, 2, 3, 4, 5, 6, 7, 8, 9, 10, 11] rfl
  have hDl := hD.sub (ws' := [(h0, .inr (3, [.ref of, .ref e1, .ref e2, .ref e3, .ref e4])), (of, .inr (2, [.ref g1, .ref g2, .ref g3, .ref g4, .ref g5, .int (nI on), .ref g6, .ref g7, .ref g8])), (g1, .inl (E.2.1 0, 7, .inl d1)), (g2, .inl (E.2.1 0, 7, .inl d2)), (g3, .inl (E.2.1 0, 7, .inl d3)), (g4, .inl (E.2.1 0, 7, .inl d4)), (g5, .inl (E.2.1 0, 7, .inl d5)), (g8, .inl (E.2.1 0, 100, .inl d8)), (e1, .inl (E.2.1 0, 512, .inl c1)), (e2, .inl (E.2.1 0, 512, .inl c2)), (e3, .inl (E.2.1 0, 896, .inl c3)), (e4, .inl (E.2.1 0, 896, .inl c4))]) [0, 1, 2, 3, 4, 5, 6, 7, 8, 9, 10, 11] (by decide) rfl
  refine lg_extend4 E h0 of e1 e2 e3 e4 g1 g2 g3 g4 g5 g6 g7 g8 on d1 d2 d3 d4 d5 d8 cr se_ po_ da co_ or_ hx hb hml hown hts hkn hst hA hcr hse hd1 (fun n_1 n_2 n_3 n_4 H locs ls  hP hD hS hl => ?_) 8 0 c1 c2 c3 c4 _ _ _ (by omega) (by omega) hPl hDl hS (lv_sub hl [1, 2, 3, 4, 5, 6, 7, 8, 0] rfl)
  have hP : va_P E.1 vwCl [(h0, .inr (3, [.ref of, .ref e1, .ref e2, .ref e3, .ref e4])), (of, .inr (2, [.ref g1, .ref g2, .ref g3, .ref g4, .ref g5, .int (nI on), .ref g6, .ref g7, .ref g8])), (g1, .inl (E.2.1 0, 7, .inl d1)), (g2, .inl (E.2.1 0, 7, .inl d2)), (g3, .inl (E.2.1 0, 7, .inl d3)), (g4, .inl (E.2.1 0, 7, .inl d4)), (g5, .inl (E.2.1 0, 7, .inl d5)), (g8, .inl (E.2.1 0, 100, .inl d8)), (e1, .inl (E.2.1 0, 512, .inl n_1)), (e2, .inl (E.2.1 0, 512, .inl n_2)), (e3, .inl (E.2.1 0, 896, .inl n_3)), (e4, .inl (E.2.1 0, 896, .inl n_4))] H := hP
  have hD : va_D A [(h0, .inr (3, [.ref of, .ref e1, .ref e2, .ref e3, .ref e4])), (of, .inr (2, [.ref g1, .ref g2, .ref g3, .ref g4, .ref g5, .int (nI on), .ref g6, .ref g7, .ref g8])), (g1, .inl (E.2.1 0, 7, .inl d1)), (g2, .inl (E.2.1 0, 7, .inl d2)), (g3, .inl (E.2.1 0, 7, .inl d3)), (g4, .inl (E.2.1 0, 7, .inl d4)), (g5, .inl (E.2.1 0, 7, .inl d5)), (g8, .inl (E.2.1 0, 100, .inl d8)), (e1, .inl (E.2.1 0, 512, .inl n_1)), (e2, .inl (E.2.1 0, 512, .inl n_2)), (e3, .inl (E.2.1 0, 896, .inl n_3)), (e4, .inl (E.2.1 0, 896, .inl n_4))] := hD
  have hP9 := hP.sub (ws' := [(h0, .inr (3, [.ref of, .ref e1, .ref e2, .ref e3, .ref e4])), (of, .inr (2, [.ref g1, .ref g2, .ref g3, .ref g4, .ref g5, .int (nI on), .ref g6, .ref g7, .ref g8])), (g1, .inl (E.2.1 0, 7, .inl d1)), (g2, .inl (E.2.1 0, 7, .inl d2)), (g3, .inl (E.2.1 0, 7, .inl d3)), (g4, .inl (E.2.1 0, 7, .inl d4)), (g5, .inl (E.2.1 0, 7, .inl d5)), (g8, .inl (E.2.1 0, 100, .inl d8)), (e1, .inl (E.2.1 0, 512, .inl n_1)), (e2, .inl (E.2.1 0, 512, .inl n_2)), (e3, .inl (E.2.1 0, 896, .inl n_3)), (e4, .inl (E.2.1 0, 896, .inl n_4))]) [0, 1, 2, 3, 4, 5, 6, 7, 8, 9, 10, 11] rfl
  have hD9 := hD.sub (ws' := [(h0, .inr (3, [.ref of, .ref e1, .ref e2, .ref e3, .ref e4])), (of, .inr (2, [.ref g1, .ref g2, .ref g3, .ref g4, .ref g5, .int (nI on), .ref g6, .ref g7, .ref g8])), (g1, .inl (E.2.1 0, 7, .inl d1)), (g2, .inl (E.2.1 0, 7, .inl d2)), (g3, .inl (E.2.1 0, 7, .inl d3)), (g4, .inl (E.2.1 0, 7, .inl d4)), (g5, .inl (E.2.1 0, 7, .inl d5)), (g8, .inl (E.2.1 0, 100, .inl d8)), (e1, .inl (E.2.1 0, 512, .inl n_1)), (e2, .inl (E.2.1 0, 512, .inl n_2)), (e3, .inl (E.2.1 0, 896, .inl n_3)), (e4, .inl (E.2.1 0, 896, .inl n_4))]) [0, 1, 2, 3, 4, 5, 6, 7, 8, 9, 10, 11] (by decide) rfl
  exact W.vret hx hb hr (fun t ht hW => ⟨⟨(n_1, n_2, n_3, n_4), rfl, trivial, by rw [ht]; exact hP9, hD9⟩, hS.F ht⟩) hS.2.2 dX3_extend_185
set_option maxHeartbeats 4000000 in
set_option maxRecDepth 100000 in
theorem lg_extend3 {p : Program} {l : Launch} {e : Env} {s : State} {m : MethodId} {args : Array Value} {below : List Frame} {meth : Method} {c : Code} {Q : State → Prop} {A : Nat → Prop} (E : vE) (h0 : Nat) (of : Nat) (e1 : Nat) (e2 : Nat) (e3 : Nat) (e4 : Nat) (g1 : Nat) (g2 : Nat) (g3 : Nat) (g4 : Nat) (g5 : Nat) (g6 : Nat) (g7 : Nat) (g8 : Nat) (on : Nat) (d1 : Nat → Int32) (d2 : Nat → Int32) (d3 : Nat → Int32) (d4 : Nat → Int32) (d5 : Nat → Int32) (d8 : Nat → Int32) (cr : Nat) (se_ : Nat) (po_ : Int32) (da : Int32) (co_ : Int32) (or_ : Int32) (hx : p.tables.exec = Jvm.exec) (hb : c.code = cX3_extend) (hml : c.maxLocals = 13) (hown : s.vm.findClass RX3 = some m.cls) (hts : ∀ w ∈ wsX3_extend, w.before args s = true) (hkn : kn E s) (hst : st E A s s.heap) (hA : ∀ q : Nat, s.heap.size ≤ q → A q) (hcr : cr < 4) (hse : se_ < 128) (hd1 : ∀ k, k < 7 → inR (d1 k) 0 9 = true) (kk : ∀ (c1 : Nat → Int32) (c2 : Nat → Int32) (c3 : Nat → Int32) (c4 : Nat → Int32) (H : Heap) (locs : List Loc) (ls : Array Slot), va_P E.1 vwCl [(h0, .inr (3, [.ref of, .ref e1, .ref e2, .ref e3, .ref e4])), (of, .inr (2, [.ref g1, .ref g2, .ref g3, .ref g4, .ref g5, .int (nI on), .ref g6, .ref g7, .ref g8])), (g1, .inl (E.2.1 0, 7, .inl d1)), (g2, .inl (E.2.1 0, 7, .inl d2)), (g3, .inl (E.2.1 0, 7, .inl d3)), (g4, .inl (E.2.1 0, 7, .inl d4)), (g5, .inl (E.2.1 0, 7, .inl d5)), (g8, .inl (E.2.1 0, 100, .inl d8)), (e1, .inl (E.2.1 0, 512, .inl c1)), (e2, .inl (E.2.1 0, 512, .inl c2)), (e3, .inl (E.2.1 0, 896, .inl c3)), (e4, .inl (E.2.1 0, 896, .inl c4))] H → va_D A [(h0, .inr (3, [.ref of, .ref e1, .ref e2, .ref e3, .ref e4])), (of, .inr (2, [.ref g1, .ref g2, .ref g3, .ref g4, .ref g5, .int (nI on), .ref g6, .ref g7, .ref g8])), (g1, .inl (E.2.1 0, 7, .inl d1)), (g2, .inl (E.2.1 0, 7, .inl d2)), (g3, .inl (E.2.1 0, 7, .inl d3)), (g4, .inl (E.2.1 0, 7, .inl d4)), (g5, .inl (E.2.1 0, 7, .inl d5)), (g8, .inl (E.2.1 0, 100, .inl d8)), (e1, .inl (E.2.1 0, 512, .inl c1)), (e2, .inl (E.2.1 0, 512, .inl c2)), (e3, .inl (E.2.1 0, 896, .inl c3)), (e4, .inl (E.2.1 0, 896, .inl c4))] → va_S A s.heap H locs → lv_has ls 13 [(0, .ref h0)] → W p l e ({ frames := 7, cells := 0, slots := 0, locals := 196 }) s m args below meth c H locs 0 0 Q (F0 m 185 ls [])) : ∀ (n0 : Nat) (k : Nat) (c1 : Nat → Int32) (c2 : Nat → Int32) (c3 : Nat → Int32) (c4 : Nat → Int32) (H : Heap) (locs : List Loc) (ls : Array Slot), 7 - k < n0 → (k ≤ 7) → va_P E.1 vwCl [(h0, .inr (3, [.ref of, .ref e1, .ref e2, .ref e3, .ref e4])), (of, .inr (2, [.ref g1, .ref g2, .ref g3, .ref g4, .ref g5, .int (nI on), .ref g6, .ref g7, .ref g8])), (g1, .inl (E.2.1 0, 7, .inl d1)), (g2, .inl (E.2.1 0, 7, .inl d2)), (g3, .inl (E.2.1 0, 7, .inl d3)), (g4, .inl (E.2.1 0, 7, .inl d4)), (g5, .inl (E.2.1 0, 7, .inl d5)), (g8, .inl (E.2.1 0, 100, .inl d8)), (e1, .inl (E.2.1 0, 512, .inl c1)), (e2, .inl (E.2.1 0, 512, .inl c2)), (e3, .inl (E.2.1 0, 896, .inl c3)), (e4, .inl (E.2.1 0, 896, .inl c4))] H → va_D A [(h0, .inr (3, [.ref of, .ref e1, .ref e2, .ref e3, .ref e4])), (of, .inr (2, [.ref g1, .ref g2, .ref g3, .ref g4, .ref g5, .int (nI on), .ref g6, .ref g7, .ref g8])), (g1, .inl (E.2.1 0, 7, .inl d1)), (g2, .inl (E.2.1 0, 7, .inl d2)), (g3, .inl (E.2.1 0, 7, .inl d3)), (g4, .inl (E.2.1 0, 7, .inl d4)), (g5, .inl (E.2.1 0, 7, .inl d5)), (g8, .inl (E.2.1 0, 100, .inl d8)), (e1, .inl (E.2.1 0, 512, .inl c1)), (e2, .inl (E.2.1 0, 512, .inl c2)), (e3, .inl (E.2.1 0, 896, .inl c3)), (e4, .inl (E.2.1 0, 896, .inl c4))] → va_S A s.heap H locs → lv_has ls 13 [(0, .ref h0), (1, .int (nI cr)), (2, .int 3), (3, .int (nI se_)), (4, .int po_), (5, .int da), (6, .int co_), (7, .int or_), (8, .int (nI k))] → W p l e ({ frames := 7, cells := 0, slots := 0, locals := 196 }) s m args below meth c H locs 0 0 Q (F0 m 10 ls []) := by
  have hK := hkn.1
  have hAO := hkn.2.2.1
  have fl24 := hts (.fieldLink RX3 24 "BoatsHome$Orders" "offers" "LBoatsHome$Offers;") (by first | exact List.mem_of_getElem? (i := 1) rfl | decide +kernel)
  have fl47 := hts (.fieldLink RX3 47 "BoatsHome$Offers" "size" "I") (by first | exact List.mem_of_getElem? (i := 2) rfl | decide +kernel)
  have fl55 := hts (.fieldLink RX3 55 "BoatsHome$Offers" "days" "[I") (by first | exact List.mem_of_getElem? (i := 3) rfl | decide +kernel)
  have fl70 := hts (.fieldLink RX3 70 "BoatsHome$Offers" "to" "[I") (by first | exact List.mem_of_getElem? (i := 4) rfl | decide +kernel)
  have inX2 : ∀ w ∈ u_ws RX2 TX2 9, w ∈ wsX3_extend := by first | exact fun w h9 => (List.mem_cons_of_mem _ (List.mem_append_right _ h9)) | decide +kernel
  have inX3 : ∀ w ∈ u_ws RX3 TX3 5, w ∈ wsX3_extend := by first | exact fun w h9 => (List.mem_cons_of_mem _ (List.mem_append_left _ (List.mem_append_right _ h9))) | decide +kernel
  intro n0
  induction n0 with
  | zero =>
    intro k c1 c2 c3 c4 H locs ls hn0
    exact absurd hn0 (Nat.not_lt_zero _)
  | succ n0 ih =>
    intro k c1 c2 c3 c4 H locs ls hn0 hk hP hD hS hl
    refine lv_iload hx hb dX3_extend_10 (lv_at hl 8 rfl) ?_
    refine lv_aload_n hx hb dX3_extend_12 rfl (lv_at hl 0 rfl) ?_
    refine va_get (D := E.1) (ci := 3) (v := .ref of) (C := RX3) (T := TX3) (N := 5) hx hb hts inX3 hown hK hP 0 rfl rfl 0 (by decide) fl24 (fun _ h9 => h9) rfl dX3_extend_13 ?_
    refine va_get (D := E.1) (ci := 2) (v := .int (nI on)) (C := RX2) (T := TX2) (N := 9) hx hb hts inX2 hown hK hP 1 rfl rfl 5 (by decide) fl47 (fun _ h9 => h9) rfl dX3_extend_16 ?_
    refine lv_icmp_ge (tgt := 185) hx hb dX3_extend_19 (by decide) (fun c_1 => ?_) (fun c_1 => ?_)
    · exact kk c1 c2 c3 c4 _ _ _  (hP.sub [0, 1, 2, 3, 4, 5, 6, 7, 8, 9, 10, 11] rfl) (hD.sub [0, 1, 2, 3, 4, 5, 6, 7, 8, 9, 10, 11] (by decide) rfl) hS (lv_sub hl [0] rfl)
    · refine lv_iload hx hb dX3_extend_22 (lv_at hl 8 rfl) ?_
      refine lv_bipush (v := 7) hx hb dX3_extend_24 (by decide) ?_
      refine lv_icmp_ge (tgt := 185) hx hb dX3_extend_26 (by decide) (fun c_2 => ?_) (fun c_2 => ?_)
      · exact kk c1 c2 c3 c4 _ _ _  (hP.sub [0, 1, 2, 3, 4, 5, 6, 7, 8, 9, 10, 11] rfl) (hD.sub [0, 1, 2, 3, 4, 5, 6, 7, 8, 9, 10, 11] (by decide) rfl) hS (lv_sub hl [0] rfl)
      · have hlt : k < 7 := by
          rcases Nat.lt_or_ge k 7 with q | q
          · exact q
          · exact absurd (show (7 : Int32) ≤ nI k from nI_le (a := 7) q (by omega)) c_2
        refine lv_iload_n hx hb dX3_extend_29 rfl (lv_at hl 3 rfl) ?_
        refine lv_iload hx hb dX3_extend_30 (lv_at hl 8 rfl) ?_
        refine lv_ishr hx hb dX3_extend_32 ?_
        refine lv_topi (fun x_3 ex_3 => ?_)
        refine lv_iconst (v := 1) hx hb dX3_extend_33 (by decide) ?_
        refine lv_iand hx hb dX3_extend_34 ?_
        refine lv_topi (fun x_4 ex_4 => ?_)
        refine lv_if_eq (tgt := 42) hx hb dX3_extend_35 (by decide) (fun c_5 => ?_) (fun c_5 => ?_)
        · refine lv_aload_n hx hb dX3_extend_42 rfl (lv_at hl 0 rfl) ?_
          refine va_get (D := E.1) (ci := 3) (v := .ref of) (C := RX3) (T := TX3) (N := 5) hx hb hts inX3 hown hK hP 0 rfl rfl 0 (by decide) fl24 (fun _ h9 => h9) rfl dX3_extend_43 ?_
          refine lv_iload hx hb dX3_extend_46 (lv_at hl 8 rfl) ?_
          refine lv_iload hx hb dX3_extend_48 (lv_at hl 4 rfl) ?_
          refine lv_iload hx hb dX3_extend_50 (lv_at hl 5 rfl) ?_
          have hPc := hP.sub (ws' := [(of, .inr (2, [.ref g1, .ref g2, .ref g3, .ref g4, .ref g5, .int (nI on), .ref g6, .ref g7, .ref g8])), (g1, .inl (E.2.1 0, 7, .inl d1)), (g4, .inl (E.2.1 0, 7, .inl d4)), (g5, .inl (E.2.1 0, 7, .inl d5)), (g8, .inl (E.2.1 0, 100, .inl d8))]) [1, 2, 5, 6, 7] rfl
          have hDc := hD.sub (ws' := [(of, .inr (2, [.ref g1, .ref g2, .ref g3, .ref g4, .ref g5, .int (nI on), .ref g6, .ref g7, .ref g8])), (g1, .inl (E.2.1 0, 7, .inl d1)), (g4, .inl (E.2.1 0, 7, .inl d4)), (g5, .inl (E.2.1 0, 7, .inl d5)), (g8, .inl (E.2.1 0, 100, .inl d8))]) [1, 2, 5, 6, 7] (by decide) rfl
          have hFc := va_free (wc := [(of, .inr (2, [.ref g1, .ref g2, .ref g3, .ref g4, .ref g5, .int (nI on), .ref g6, .ref g7, .ref g8])), (g1, .inl (E.2.1 0, 7, .inl d1)), (g4, .inl (E.2.1 0, 7, .inl d4)), (g5, .inl (E.2.1 0, 7, .inl d5)), (g8, .inl (E.2.1 0, 100, .inl d8))]) hD hS hA [1, 2, 5, 6, 7] rfl
          refine va_calli (va_runV (As := [.int (nI k), .int po_, .int da]) (rest := []) ⟨hx, hb, hml, hown, hts⟩ (c_X2_startOf l E of g1 g2 g3 g4 g5 g6 g7 g8 on d1 d4 d5 d8 k po_ da H.size hlt hd1) (cwV 3 hts gX3_extend_X2_startOf rfl rfl rfl hdV_X2_startOf ⟨Nat.le_of_ble_eq_true rfl, Nat.le_of_ble_eq_true rfl⟩) ⟨pcW_blind, va_recv hK hPc (ci := 2) (q0 := 0) rfl rfl, (pcW_pre hPc hkn hDc hst hS hFc)⟩ rfl rfl hl.1 rfl (lv_room (Nat.le_of_ble_eq_true rfl)) dX3_extend_52 ⟨Nat.le_of_ble_eq_true rfl, Nat.le_of_ble_eq_true rfl⟩) hS (fun q _ h => hFc q h) hFc (fun r_6 u t H1 locs ht hvm hw_7 hB hz1 hk1 hS => ?_)
          obtain ⟨hP1, hD1⟩ := hB
          rw [ht] at hP1
          try dsimp only at hw_7
          obtain ⟨hP, hD⟩ := va_join (wr := [(h0, .inr (3, [.ref of, .ref e1, .ref e2, .ref e3, .ref e4])), (g2, .inl (E.2.1 0, 7, .inl d2)), (g3, .inl (E.2.1 0, 7, .inl d3)), (e1, .inl (E.2.1 0, 512, .inl c1)), (e2, .inl (E.2.1 0, 512, .inl c2)), (e3, .inl (E.2.1 0, 896, .inl c3)), (e4, .inl (E.2.1 0, 896, .inl c4))]) (w1 := [(of, .inr (2, [.ref g1, .ref g2, .ref g3, .ref g4, .ref g5, .int (nI on), .ref g6, .ref g7, .ref g8])), (g1, .inl (E.2.1 0, 7, .inl d1)), (g4, .inl (E.2.1 0, 7, .inl d4)), (g5, .inl (E.2.1 0, 7, .inl d5)), (g8, .inl (E.2.1 0, 100, .inl d8))]) hP hD [1, 2, 5, 6, 7] [0, 3, 4, 8, 9, 10, 11] rfl rfl (by decide) (by decide) hk1 hFc hP1 hD1
          generalize H1 = H at hP hS ⊢
          have hP : va_P E.1 vwCl [(h0, .inr (3, [.ref of, .ref e1, .ref e2, .ref e3, .ref e4])), (g2, .inl (E.2.1 0, 7, .inl d2)), (g3, .inl (E.2.1 0, 7, .inl d3)), (e1, .inl (E.2.1 0, 512, .inl c1)), (e2, .inl (E.2.1 0, 512, .inl c2)), (e3, .inl (E.2.1 0, 896, .inl c3)), (e4, .inl (E.2.1 0, 896, .inl c4)), (of, .inr (2, [.ref g1, .ref g2, .ref g3, .ref g4, .ref g5, .int (nI on), .ref g6, .ref g7, .ref g8])), (g1, .inl (E.2.1 0, 7, .inl d1)), (g4, .inl (E.2.1 0, 7, .inl d4)), (g5, .inl (E.2.1 0, 7, .inl d5)), (g8, .inl (E.2.1 0, 100, .inl d8))] H := hP
          have hD : va_D A [(h0, .inr (3, [.ref of, .ref e1, .ref e2, .ref e3, .ref e4])), (g2, .inl (E.2.1 0, 7, .inl d2)), (g3, .inl (E.2.1 0, 7, .inl d3)), (e1, .inl (E.2.1 0, 512, .inl c1)), (e2, .inl (E.2.1 0, 512, .inl c2)), (e3, .inl (E.2.1 0, 896, .inl c3)), (e4, .inl (E.2.1 0, 896, .inl c4)), (of, .inr (2, [.ref g1, .ref g2, .ref g3, .ref g4, .ref g5, .int (nI on), .ref g6, .ref g7, .ref g8])), (g1, .inl (E.2.1 0, 7, .inl d1)), (g4, .inl (E.2.1 0, 7, .inl d4)), (g5, .inl (E.2.1 0, 7, .inl d5)), (g8, .inl (E.2.1 0, 100, .inl d8))] := hD
          refine lv_istore (lv' := [(9, .int r_6), (0, .ref h0), (1, .int (nI cr)), (2, .int 3), (3, .int (nI se_)), (4, .int po_), (5, .int da), (6, .int co_), (7, .int or_), (8, .int (nI k))]) hx hb dX3_extend_55 hl (by decide) rfl (fun ls hl => ?_)
          refine lv_iload hx hb dX3_extend_57 (lv_at hl 0 rfl) ?_
          refine lv_iconst (v := (-1)) hx hb dX3_extend_59 (by decide) ?_
          refine lv_icmp_eq (tgt := 179) hx hb dX3_extend_60 (by decide) (fun c_8 => ?_) (fun c_8 => ?_)
          · refine lv_iinc (v := (nI (k + 1))) (lv' := [(8, .int (nI (k + 1))), (9, .int r_6), (0, .ref h0), (1, .int (nI cr)), (2, .int 3), (3, .int (nI se_)), (4, .int po_), (5, .int da), (6, .int co_), (7, .int or_)]) hx hb dX3_extend_179 hl (k := 9) rfl (show nI k + 1 = nI (k + 1) from nI_1 k) (by decide) rfl (fun ls hl => ?_)
            refine lv_goto (tgt := 10) hx hb dX3_extend_182 (by decide) ?_
            exact ih (k + 1) c1 c2 c3 c4 _ _ _ (by omega) (by omega) (hP.sub [0, 7, 8, 1, 2, 9, 10, 11, 3, 4, 5, 6] rfl) (hD.sub [0, 7, 8, 1, 2, 9, 10, 11, 3, 4, 5, 6] (by decide) rfl) hS (lv_sub hl [2, 3, 4, 5, 6, 7, 8, 9, 0] rfl)
          · refine lv_iload hx hb dX3_extend_63 (lv_at hl 0 rfl) ?_
            refine lv_aload_n hx hb dX3_extend_65 rfl (lv_at hl 1 rfl) ?_
            refine va_get (D := E.1) (ci := 3) (v := .ref of) (C := RX3) (T := TX3) (N := 5) hx hb hts inX3 hown hK hP 0 rfl rfl 0 (by decide) fl24 (fun _ h9 => h9) rfl dX3_extend_66 ?_
            refine va_get (D := E.1) (ci := 2) (v := .ref g3) (C := RX2) (T := TX2) (N := 9) hx hb hts inX2 hown hK hP 7 rfl rfl 2 (by decide) fl55 (fun _ h9 => h9) rfl dX3_extend_69 ?_
            refine lv_iload hx hb dX3_extend_72 (lv_at hl 9 rfl) ?_
            have hi_9 : vp_in (nI k) 7 := vp_in_nI hlt (by decide)
            refine va_iald hx hb hK hP 2 0 rfl rfl hi_9 dX3_extend_74 ?_
            refine lv_topi (fun x_10 ex_10 => ?_)
            refine lv_iadd hx hb dX3_extend_75 ?_
            refine lv_topi (fun x_11 ex_11 => ?_)
            refine lv_istore (lv' := [(10, .int x_11), (9, .int r_6), (0, .ref h0), (1, .int (nI cr)), (2, .int 3), (3, .int (nI se_)), (4, .int po_), (5, .int da), (6, .int co_), (7, .int or_), (8, .int (nI k))]) hx hb dX3_extend_76 hl (by decide) rfl (fun ls hl => ?_)
            refine lv_iload hx hb dX3_extend_78 (lv_at hl 8 rfl) ?_
            refine lv_aload_n hx hb dX3_extend_80 rfl (lv_at hl 2 rfl) ?_
            refine va_get (D := E.1) (ci := 3) (v := .ref of) (C := RX3) (T := TX3) (N := 5) hx hb hts inX3 hown hK hP 0 rfl rfl 0 (by decide) fl24 (fun _ h9 => h9) rfl dX3_extend_81 ?_
            refine lv_iload hx hb dX3_extend_84 (lv_at hl 10 rfl) ?_
            refine lv_iload hx hb dX3_extend_86 (lv_at hl 6 rfl) ?_
            have hPc := hP.sub (ws' := [(of, .inr (2, [.ref g1, .ref g2, .ref g3, .ref g4, .ref g5, .int (nI on), .ref g6, .ref g7, .ref g8])), (g1, .inl (E.2.1 0, 7, .inl d1)), (g8, .inl (E.2.1 0, 100, .inl d8))]) [7, 8, 11] rfl
            have hDc := hD.sub (ws' := [(of, .inr (2, [.ref g1, .ref g2, .ref g3, .ref g4, .ref g5, .int (nI on), .ref g6, .ref g7, .ref g8])), (g1, .inl (E.2.1 0, 7, .inl d1)), (g8, .inl (E.2.1 0, 100, .inl d8))]) [7, 8, 11] (by decide) rfl
            have hFc := va_free (wc := [(of, .inr (2, [.ref g1, .ref g2, .ref g3, .ref g4, .ref g5, .int (nI on), .ref g6, .ref g7, .ref g8])), (g1, .inl (E.2.1 0, 7, .inl d1)), (g8, .inl (E.2.1 0, 100, .inl d8))]) hD hS hA [7, 8, 11] rfl
            refine va_calli (va_runV (As := [.int (nI k), .int po_]) (rest := [.int co_]) ⟨hx, hb, hml, hown, hts⟩ (c_X2_fareTo l E of g1 g2 g3 g4 g5 g6 g7 g8 on d1 d8 k po_ H.size hlt hd1) (cwV 2 hts gX3_extend_X2_fareTo rfl rfl rfl hdV_X2_fareTo ⟨Nat.le_of_ble_eq_true rfl, Nat.le_of_ble_eq_true rfl⟩) ⟨pcW_blind, va_recv hK hPc (ci := 2) (q0 := 0) rfl rfl, (pcW_pre hPc hkn hDc hst hS hFc)⟩ rfl rfl hl.1 rfl (lv_room (Nat.le_of_ble_eq_true rfl)) dX3_extend_88 ⟨Nat.le_of_ble_eq_true rfl, Nat.le_of_ble_eq_true rfl⟩) hS (fun q _ h => hFc q h) hFc (fun r_12 u t H1 locs ht hvm hw_13 hB hz1 hk1 hS => ?_)
            obtain ⟨hP1, hD1⟩ := hB
            rw [ht] at hP1
            try dsimp only at hw_13
            obtain ⟨hP, hD⟩ := va_join (wr := [(h0, .inr (3, [.ref of, .ref e1, .ref e2, .ref e3, .ref e4])), (g2, .inl (E.2.1 0, 7, .inl d2)), (g3, .inl (E.2.1 0, 7, .inl d3)), (e1, .inl (E.2.1 0, 512, .inl c1)), (e2, .inl (E.2.1 0, 512, .inl c2)), (e3, .inl (E.2.1 0, 896, .inl c3)), (e4, .inl (E.2.1 0, 896, .inl c4)), (g4, .inl (E.2.1 0, 7, .inl d4)), (g5, .inl (E.2.1 0, 7, .inl d5))]) (w1 := [(of, .inr (2, [.ref g1, .ref g2, .ref g3, .ref g4, .ref g5, .int (nI on), .ref g6, .ref g7, .ref g8])), (g1, .inl (E.2.1 0, 7, .inl d1)), (g8, .inl (E.2.1 0, 100, .inl d8))]) hP hD [7, 8, 11] [0, 1, 2, 3, 4, 5, 6, 9, 10] rfl rfl (by decide) (by decide) hk1 hFc hP1 hD1
            generalize H1 = H at hP hS ⊢
            have hP : va_P E.1 vwCl [(h0, .inr (3, [.ref of, .ref e1, .ref e2, .ref e3, .ref e4])), (g2, .inl (E.2.1 0, 7, .inl d2)), (g3, .inl (E.2.1 0, 7, .inl d3)), (e1, .inl (E.2.1 0, 512, .inl c1)), (e2, .inl (E.2.1 0, 512, .inl c2)), (e3, .inl (E.2.1 0, 896, .inl c3)), (e4, .inl (E.2.1 0, 896, .inl c4)), (g4, .inl (E.2.1 0, 7, .inl d4)), (g5, .inl (E.2.1 0, 7, .inl d5)), (of, .inr (2, [.ref g1, .ref g2, .ref g3, .ref g4, .ref g5, .int (nI on), .ref g6, .ref g7, .ref g8])), (g1, .inl (E.2.1 0, 7, .inl d1)), (g8, .inl (E.2.1 0, 100, .inl d8))] H := hP
            have hD : va_D A [(h0, .inr (3, [.ref of, .ref e1, .ref e2, .ref e3, .ref e4])), (g2, .inl (E.2.1 0, 7, .inl d2)), (g3, .inl (E.2.1 0, 7, .inl d3)), (e1, .inl (E.2.1 0, 512, .inl c1)), (e2, .inl (E.2.1 0, 512, .inl c2)), (e3, .inl (E.2.1 0, 896, .inl c3)), (e4, .inl (E.2.1 0, 896, .inl c4)), (g4, .inl (E.2.1 0, 7, .inl d4)), (g5, .inl (E.2.1 0, 7, .inl d5)), (of, .inr (2, [.ref g1, .ref g2, .ref g3, .ref g4, .ref g5, .int (nI on), .ref g6, .ref g7, .ref g8])), (g1, .inl (E.2.1 0, 7, .inl d1)), (g8, .inl (E.2.1 0, 100, .inl d8))] := hD
            refine lv_iadd hx hb dX3_extend_91 ?_
            refine lv_topi (fun x_14 ex_14 => ?_)
            refine lv_istore (lv' := [(11, .int x_14), (10, .int x_11), (9, .int r_6), (0, .ref h0), (1, .int (nI cr)), (2, .int 3), (3, .int (nI se_)), (4, .int po_), (5, .int da), (6, .int co_), (7, .int or_), (8, .int (nI k))]) hx hb dX3_extend_92 hl (by decide) rfl (fun ls hl => ?_)
            refine lv_iload_n hx hb dX3_extend_94 rfl (lv_at hl 6 rfl) ?_
            refine lv_iconst (v := 1) hx hb dX3_extend_95 (by decide) ?_
            refine lv_iload hx hb dX3_extend_96 (lv_at hl 11 rfl) ?_
            refine lv_ishl hx hb dX3_extend_98 ?_
            refine lv_topi (fun x_15 ex_15 => ?_)
            refine lv_ior hx hb dX3_extend_99 ?_
            refine lv_topi (fun x_16 ex_16 => ?_)
            obtain ⟨w_17, hwd_18, ew_19⟩ : ∃ w, w < 128 ∧ x_16 = nI w := by rw [ex_16, ex_15]; exact or_bit hse hlt
            subst ew_19
            refine lv_istore (lv' := [(12, .int (nI w_17)), (11, .int x_14), (10, .int x_11), (9, .int r_6), (0, .ref h0), (1, .int (nI cr)), (2, .int 3), (3, .int (nI se_)), (4, .int po_), (5, .int da), (6, .int co_), (7, .int or_), (8, .int (nI k))]) hx hb dX3_extend_100 hl (by decide) rfl (fun ls hl => ?_)
            refine lv_aload_n hx hb dX3_extend_102 rfl (lv_at hl 4 rfl) ?_
            refine lv_iload hx hb dX3_extend_103 (lv_at hl 0 rfl) ?_
            refine lv_bipush (v := 7) hx hb dX3_extend_105 (by decide) ?_
            refine lv_imul hx hb dX3_extend_107 ?_
            refine lv_topi (fun x_20 ex_20 => ?_)
            obtain rfl : x_20 = nI (w_17 * 7) := ex_20.trans (pk_mul w_17 7)
            refine lv_iload hx hb dX3_extend_108 (lv_at hl 12 rfl) ?_
            refine lv_iadd hx hb dX3_extend_110 ?_
            refine lv_topi (fun x_21 ex_21 => ?_)
            obtain rfl : x_21 = nI ((w_17 * 7) + k) := ex_21.trans (nI_add (w_17 * 7) k)
            refine lv_iload hx hb dX3_extend_111 (lv_at hl 2 rfl) ?_
            refine lv_iload hx hb dX3_extend_113 (lv_at hl 1 rfl) ?_
            have hPc := hP.sub (ws' := [(h0, .inr (3, [.ref of, .ref e1, .ref e2, .ref e3, .ref e4])), (e3, .inl (E.2.1 0, 896, .inl c3)), (e4, .inl (E.2.1 0, 896, .inl c4))]) [0, 5, 6] rfl
            have hDc := hD.sub (ws' := [(h0, .inr (3, [.ref of, .ref e1, .ref e2, .ref e3, .ref e4])), (e3, .inl (E.2.1 0, 896, .inl c3)), (e4, .inl (E.2.1 0, 896, .inl c4))]) [0, 5, 6] (by decide) rfl
            have hFc := va_free (wc := [(h0, .inr (3, [.ref of, .ref e1, .ref e2, .ref e3, .ref e4])), (e3, .inl (E.2.1 0, 896, .inl c3)), (e4, .inl (E.2.1 0, 896, .inl c4))]) hD hS hA [0, 5, 6] rfl
            refine va_calli (va_runV (As := [.int (nI ((w_17 * 7) + k)), .int x_11, .int x_14]) (rest := []) ⟨hx, hb, hml, hown, hts⟩ (c_X3_outdone l E h0 of e1 e2 e3 e4 ((w_17 * 7) + k) x_11 x_14 c3 c4 H.size (by omega)) (cwV 3 hts gX3_extend_X3_outdone rfl rfl rfl hdV_X3_outdone ⟨Nat.le_of_ble_eq_true rfl, Nat.le_of_ble_eq_true rfl⟩) ⟨pcW_blind, va_recv hK hPc (ci := 3) (q0 := 0) rfl rfl, (pcW_pre hPc hkn hDc hst hS hFc)⟩ rfl rfl hl.1 rfl (lv_room (Nat.le_of_ble_eq_true rfl)) dX3_extend_115 ⟨Nat.le_of_ble_eq_true rfl, Nat.le_of_ble_eq_true rfl⟩) hS (fun q _ h => hFc q h) hFc (fun r_22 u t H1 locs ht hvm hw_23 hB hz1 hk1 hS => ?_)
            obtain ⟨u_24, u_25⟩ := u
            obtain ⟨hP1, hD1⟩ := hB
            rw [ht] at hP1
            try dsimp only at hw_23
            obtain ⟨hP, hD⟩ := va_join (wr := [(g2, .inl (E.2.1 0, 7, .inl d2)), (g3, .inl (E.2.1 0, 7, .inl d3)), (e1, .inl (E.2.1 0, 512, .inl c1)), (e2, .inl (E.2.1 0, 512, .inl c2)), (g4, .inl (E.2.1 0, 7, .inl d4)), (g5, .inl (E.2.1 0, 7, .inl d5)), (of, .inr (2, [.ref g1, .ref g2, .ref g3, .ref g4, .ref g5, .int (nI on), .ref g6, .ref g7, .ref g8])), (g1, .inl (E.2.1 0, 7, .inl d1)), (g8, .inl (E.2.1 0, 100, .inl d8))]) (w1 := [(h0, .inr (3, [.ref of, .ref e1, .ref e2, .ref e3, .ref e4])), (e3, .inl (E.2.1 0, 896, .inl u_24)), (e4, .inl (E.2.1 0, 896, .inl u_25))]) hP hD [0, 5, 6] [1, 2, 3, 4, 7, 8, 9, 10, 11] rfl rfl (by decide) (by decide) hk1 hFc hP1 hD1
            generalize H1 = H at hP hS ⊢
            have hP : va_P E.1 vwCl [(g2, .inl (E.2.1 0, 7, .inl d2)), (g3, .inl (E.2.1 0, 7, .inl d3)), (e1, .inl (E.2.1 0, 512, .inl c1)), (e2, .inl (E.2.1 0, 512, .inl c2)), (g4, .inl (E.2.1 0, 7, .inl d4)), (g5, .inl (E.2.1 0, 7, .inl d5)), (of, .inr (2, [.ref g1, .ref g2, .ref g3, .ref g4, .ref g5, .int (nI on), .ref g6, .ref g7, .ref g8])), (g1, .inl (E.2.1 0, 7, .inl d1)), (g8, .inl (E.2.1 0, 100, .inl d8)), (h0, .inr (3, [.ref of, .ref e1, .ref e2, .ref e3, .ref e4])), (e3, .inl (E.2.1 0, 896, .inl u_24)), (e4, .inl (E.2.1 0, 896, .inl u_25))] H := hP
            have hD : va_D A [(g2, .inl (E.2.1 0, 7, .inl d2)), (g3, .inl (E.2.1 0, 7, .inl d3)), (e1, .inl (E.2.1 0, 512, .inl c1)), (e2, .inl (E.2.1 0, 512, .inl c2)), (g4, .inl (E.2.1 0, 7, .inl d4)), (g5, .inl (E.2.1 0, 7, .inl d5)), (of, .inr (2, [.ref g1, .ref g2, .ref g3, .ref g4, .ref g5, .int (nI on), .ref g6, .ref g7, .ref g8])), (g1, .inl (E.2.1 0, 7, .inl d1)), (g8, .inl (E.2.1 0, 100, .inl d8)), (h0, .inr (3, [.ref of, .ref e1, .ref e2, .ref e3, .ref e4])), (e3, .inl (E.2.1 0, 896, .inl u_24)), (e4, .inl (E.2.1 0, 896, .inl u_25))] := hD
            refine lv_if_ne (tgt := 179) hx hb dX3_extend_118 (by decide) (fun c_26 => ?_) (fun c_26 => ?_)
            · refine lv_iinc (v := (nI (k + 1))) (lv' := [(8, .int (nI (k + 1))), (12, .int (nI w_17)), (11, .int x_14), (10, .int x_11), (9, .int r_6), (0, .ref h0), (1, .int (nI cr)), (2, .int 3), (3, .int (nI se_)), (4, .int po_), (5, .int da), (6, .int co_), (7, .int or_)]) hx hb dX3_extend_179 hl (k := 12) rfl (show nI k + 1 = nI (k + 1) from nI_1 k) (by decide) rfl (fun ls hl => ?_)
              refine lv_goto (tgt := 10) hx hb dX3_extend_182 (by decide) ?_
              exact ih (k + 1) c1 c2 u_24 u_25 _ _ _ (by omega) (by omega) (hP.sub [9, 6, 7, 0, 1, 4, 5, 8, 2, 3, 10, 11] rfl) (hD.sub [9, 6, 7, 0, 1, 4, 5, 8, 2, 3, 10, 11] (by decide) rfl) hS (lv_sub hl [5, 6, 7, 8, 9, 10, 11, 12, 0] rfl)
            · refine lv_aload_n hx hb dX3_extend_121 rfl (lv_at hl 4 rfl) ?_
              refine lv_iload_n hx hb dX3_extend_122 rfl (lv_at hl 5 rfl) ?_
              refine lv_sipush (v := 128) hx hb dX3_extend_123 (by decide) ?_
              refine lv_imul hx hb dX3_extend_126 ?_
              refine lv_topi (fun x_27 ex_27 => ?_)
              obtain rfl : x_27 = nI (cr * 128) := ex_27.trans (pk_mul cr 128)
              refine lv_iload hx hb dX3_extend_127 (lv_at hl 0 rfl) ?_
              refine lv_iadd hx hb dX3_extend_129 ?_
              refine lv_topi (fun x_28 ex_28 => ?_)
              obtain rfl : x_28 = nI ((cr * 128) + w_17) := ex_28.trans (nI_add (cr * 128) w_17)
              refine lv_iload hx hb dX3_extend_130 (lv_at hl 1 rfl) ?_
              refine lv_iload hx hb dX3_extend_132 (lv_at hl 11 rfl) ?_
              refine lv_bipush (v := 8) hx hb dX3_extend_134 (by decide) ?_
              refine lv_imul hx hb dX3_extend_136 ?_
              refine lv_topi (fun x_29 ex_29 => ?_)
              refine lv_iload hx hb dX3_extend_137 (lv_at hl 12 rfl) ?_
              refine lv_iadd hx hb dX3_extend_139 ?_
              refine lv_topi (fun x_30 ex_30 => ?_)
              refine lv_iconst (v := 1) hx hb dX3_extend_140 (by decide) ?_
              refine lv_iadd hx hb dX3_extend_141 ?_
              refine lv_topi (fun x_31 ex_31 => ?_)
              have hPc := hP.sub (ws' := [(h0, .inr (3, [.ref of, .ref e1, .ref e2, .ref e3, .ref e4])), (e1, .inl (E.2.1 0, 512, .inl c1)), (e2, .inl (E.2.1 0, 512, .inl c2))]) [9, 2, 3] rfl
              have hDc := hD.sub (ws' := [(h0, .inr (3, [.ref of, .ref e1, .ref e2, .ref e3, .ref e4])), (e1, .inl (E.2.1 0, 512, .inl c1)), (e2, .inl (E.2.1 0, 512, .inl c2))]) [9, 2, 3] (by decide) rfl
              have hFc := va_free (wc := [(h0, .inr (3, [.ref of, .ref e1, .ref e2, .ref e3, .ref e4])), (e1, .inl (E.2.1 0, 512, .inl c1)), (e2, .inl (E.2.1 0, 512, .inl c2))]) hD hS hA [9, 2, 3] rfl
              refine va_callv (va_runV (As := [.int (nI ((cr * 128) + w_17)), .int x_14, .int x_31]) (rest := []) ⟨hx, hb, hml, hown, hts⟩ (c_X3_keep l E h0 of e1 e2 e3 e4 ((cr * 128) + w_17) x_14 x_31 c1 c2 H.size (by omega)) (cwV 3 hts gX3_extend_X3_keep rfl rfl rfl hdV_X3_keep ⟨Nat.le_of_ble_eq_true rfl, Nat.le_of_ble_eq_true rfl⟩) ⟨pcW_blind, va_recv hK hPc (ci := 3) (q0 := 0) rfl rfl, (pcW_pre hPc hkn hDc hst hS hFc)⟩ rfl rfl hl.1 rfl (lv_room (Nat.le_of_ble_eq_true rfl)) dX3_extend_142 ⟨Nat.le_of_ble_eq_true rfl, Nat.le_of_ble_eq_true rfl⟩) hS (fun q _ h => hFc q h) hFc (fun u t H1 locs ht hvm hw_33 hB hz1 hk1 hS => ?_)
              obtain ⟨u_34, u_35⟩ := u
              obtain ⟨hP1, hD1⟩ := hB
              rw [ht] at hP1
              try dsimp only at hw_33
              obtain ⟨hP, hD⟩ := va_join (wr := [(g2, .inl (E.2.1 0, 7, .inl d2)), (g3, .inl (E.2.1 0, 7, .inl d3)), (g4, .inl (E.2.1 0, 7, .inl d4)), (g5, .inl (E.2.1 0, 7, .inl d5)), (of, .inr (2, [.ref g1, .ref g2, .ref g3, .ref g4, .ref g5, .int (nI on), .ref g6, .ref g7, .ref g8])), (g1, .inl (E.2.1 0, 7, .inl d1)), (g8, .inl (E.2.1 0, 100, .inl d8)), (e3, .inl (E.2.1 0, 896, .inl u_24)), (e4, .inl (E.2.1 0, 896, .inl u_25))]) (w1 := [(h0, .inr (3, [.ref of, .ref e1, .ref e2, .ref e3, .ref e4])), (e1, .inl (E.2.1 0, 512, .inl u_34)), (e2, .inl (E.2.1 0, 512, .inl u_35))]) hP hD [9, 2, 3] [0, 1, 4, 5, 6, 7, 8, 10, 11] rfl rfl (by decide) (by decide) hk1 hFc hP1 hD1
              generalize H1 = H at hP hS ⊢
              have hP : va_P E.1 vwCl [(g2, .inl (E.2.1 0, 7, .inl d2)), (g3, .inl (E.2.1 0, 7, .inl d3)), (g4, .inl (E.2.1 0, 7, .inl d4)), (g5, .inl (E.2.1 0, 7, .inl d5)), (of, .inr (2, [.ref g1, .ref g2, .ref g3, .ref g4, .ref g5, .int (nI on), .ref g6, .ref g7, .ref g8])), (g1, .inl (E.2.1 0, 7, .inl d1)), (g8, .inl (E.2.1 0, 100, .inl d8)), (e3, .inl (E.2.1 0, 896, .inl u_24)), (e4, .inl (E.2.1 0, 896, .inl u_25)), (h0, .inr (3, [.ref of, .ref e1, .ref e2, .ref e3, .ref e4])), (e1, .inl (E.2.1 0, 512, .inl u_34)), (e2, .inl (E.2.1 0, 512, .inl u_35))] H := hP
              have hD : va_D A [(g2, .inl (E.2.1 0, 7, .inl d2)), (g3, .inl (E.2.1 0, 7, .inl d3)), (g4, .inl (E.2.1 0, 7, .inl d4)), (g5, .inl (E.2.1 0, 7, .inl d5)), (of, .inr (2, [.ref g1, .ref g2, .ref g3, .ref g4, .ref g5, .int (nI on), .ref g6, .ref g7, .ref g8])), (g1, .inl (E.2.1 0, 7, .inl d1)), (g8, .inl (E.2.1 0, 100, .inl d8)), (e3, .inl (E.2.1 0, 896, .inl u_24)), (e4, .inl (E.2.1 0, 896, .inl u_25)), (h0, .inr (3, [.ref of, .ref e1, .ref e2, .ref e3, .ref e4])), (e1, .inl (E.2.1 0, 512, .inl u_34)), (e2, .inl (E.2.1 0, 512, .inl u_35))] := hD
              refine lv_aload_n hx hb dX3_extend_145 rfl (lv_at hl 4 rfl) ?_
              refine lv_iload_n hx hb dX3_extend_146 rfl (lv_at hl 5 rfl) ?_
              refine lv_iload_n hx hb dX3_extend_147 rfl (lv_at hl 6 rfl) ?_
              refine lv_iconst (v := 1) hx hb dX3_extend_148 (by decide) ?_
              refine lv_iadd hx hb dX3_extend_149 ?_
              refine lv_topi (fun x_36 ex_36 => ?_)
              obtain rfl : x_36 = 4 := ex_36.trans (by decide +kernel)
              refine lv_iload hx hb dX3_extend_150 (lv_at hl 0 rfl) ?_
              refine lv_aload_n hx hb dX3_extend_152 rfl (lv_at hl 4 rfl) ?_
              refine va_get (D := E.1) (ci := 3) (v := .ref of) (C := RX3) (T := TX3) (N := 5) hx hb hts inX3 hown hK hP 9 rfl rfl 0 (by decide) fl24 (fun _ h9 => h9) rfl dX3_extend_153 ?_
              refine va_get (D := E.1) (ci := 2) (v := .ref g2) (C := RX2) (T := TX2) (N := 9) hx hb hts inX2 hown hK hP 4 rfl rfl 1 (by decide) fl70 (fun _ h9 => h9) rfl dX3_extend_156 ?_
              refine lv_iload hx hb dX3_extend_159 (lv_at hl 12 rfl) ?_
              refine va_iald hx hb hK hP 0 0 rfl rfl hi_9 dX3_extend_161 ?_
              refine lv_topi (fun x_37 ex_37 => ?_)
              refine lv_iload hx hb dX3_extend_162 (lv_at hl 2 rfl) ?_
              refine lv_iload hx hb dX3_extend_164 (lv_at hl 1 rfl) ?_
              refine lv_iload hx hb dX3_extend_166 (lv_at hl 11 rfl) ?_
              refine lv_bipush (v := 8) hx hb dX3_extend_168 (by decide) ?_
              refine lv_imul hx hb dX3_extend_170 ?_
              refine lv_topi (fun x_38 ex_38 => ?_)
              refine lv_iload hx hb dX3_extend_171 (lv_at hl 12 rfl) ?_
              refine lv_iadd hx hb dX3_extend_173 ?_
              refine lv_topi (fun x_39 ex_39 => ?_)
              refine lv_iconst (v := 1) hx hb dX3_extend_174 (by decide) ?_
              refine lv_iadd hx hb dX3_extend_175 ?_
              refine lv_topi (fun x_40 ex_40 => ?_)
              have hPc := hP.sub (ws' := [(h0, .inr (3, [.ref of, .ref e1, .ref e2, .ref e3, .ref e4])), (of, .inr (2, [.ref g1, .ref g2, .ref g3, .ref g4, .ref g5, .int (nI on), .ref g6, .ref g7, .ref g8])), (g1, .inl (E.2.1 0, 7, .inl d1)), (g2, .inl (E.2.1 0, 7, .inl d2)), (g3, .inl (E.2.1 0, 7, .inl d3)), (g4, .inl (E.2.1 0, 7, .inl d4)), (g5, .inl (E.2.1 0, 7, .inl d5)), (g8, .inl (E.2.1 0, 100, .inl d8)), (e1, .inl (E.2.1 0, 512, .inl u_34)), (e2, .inl (E.2.1 0, 512, .inl u_35)), (e3, .inl (E.2.1 0, 896, .inl u_24)), (e4, .inl (E.2.1 0, 896, .inl u_25))]) [9, 4, 5, 0, 1, 2, 3, 6, 10, 11, 7, 8] rfl
              have hDc := hD.sub (ws' := [(h0, .inr (3, [.ref of, .ref e1, .ref e2, .ref e3, .ref e4])), (of, .inr (2, [.ref g1, .ref g2, .ref g3, .ref g4, .ref g5, .int (nI on), .ref g6, .ref g7, .ref g8])), (g1, .inl (E.2.1 0, 7, .inl d1)), (g2, .inl (E.2.1 0, 7, .inl d2)), (g3, .inl (E.2.1 0, 7, .inl d3)), (g4, .inl (E.2.1 0, 7, .inl d4)), (g5, .inl (E.2.1 0, 7, .inl d5)), (g8, .inl (E.2.1 0, 100, .inl d8)), (e1, .inl (E.2.1 0, 512, .inl u_34)), (e2, .inl (E.2.1 0, 512, .inl u_35)), (e3, .inl (E.2.1 0, 896, .inl u_24)), (e4, .inl (E.2.1 0, 896, .inl u_25))]) [9, 4, 5, 0, 1, 2, 3, 6, 10, 11, 7, 8] (by decide) rfl
              have hFc := va_free (wc := [(h0, .inr (3, [.ref of, .ref e1, .ref e2, .ref e3, .ref e4])), (of, .inr (2, [.ref g1, .ref g2, .ref g3, .ref g4, .ref g5, .int (nI on), .ref g6, .ref g7, .ref g8])), (g1, .inl (E.2.1 0, 7, .inl d1)), (g2, .inl (E.2.1 0, 7, .inl d2)), (g3, .inl (E.2.1 0, 7, .inl d3)), (g4, .inl (E.2.1 0, 7, .inl d4)), (g5, .inl (E.2.1 0, 7, .inl d5)), (g8, .inl (E.2.1 0, 100, .inl d8)), (e1, .inl (E.2.1 0, 512, .inl u_34)), (e2, .inl (E.2.1 0, 512, .inl u_35)), (e3, .inl (E.2.1 0, 896, .inl u_24)), (e4, .inl (E.2.1 0, 896, .inl u_25))]) hD hS hA [9, 4, 5, 0, 1, 2, 3, 6, 10, 11, 7, 8] rfl
              refine va_callv (va_runV (As := [.int (nI cr), .int 4, .int (nI w_17), .int x_37, .int x_11, .int x_14, .int x_40]) (rest := []) ⟨hx, hb, hml, hown, hts⟩ (c_X3_extend4 l E h0 of e1 e2 e3 e4 g1 g2 g3 g4 g5 g6 g7 g8 on d1 d2 d3 d4 d5 d8 cr w_17 x_37 x_11 x_14 x_40 u_34 u_35 u_24 u_25 H.size hcr hwd_18 hd1) (cwV 7 hts gX3_extend_X3_extend rfl rfl rfl hdV_X3_extend ⟨Nat.le_of_ble_eq_true rfl, Nat.le_of_ble_eq_true rfl⟩) ⟨pcW_blind, va_recv hK hPc (ci := 3) (q0 := 0) rfl rfl, (pcW_pre hPc hkn hDc hst hS hFc)⟩ rfl rfl hl.1 rfl (lv_room (Nat.le_of_ble_eq_true rfl)) dX3_extend_176 ⟨Nat.le_of_ble_eq_true rfl, Nat.le_of_ble_eq_true rfl⟩) hS (fun q _ h => hFc q h) hFc (fun u t H1 locs ht hvm hw_42 hB hz1 hk1 hS => ?_)
              obtain ⟨u_43, u_44, u_45, u_46⟩ := u
              obtain ⟨hP1, hD1⟩ := hB
              rw [ht] at hP1
              try dsimp only at hw_42
              obtain ⟨hP, hD⟩ := va_join (wr := []) (w1 := [(h0, .inr (3, [.ref of, .ref e1, .ref e2, .ref e3, .ref e4])), (of, .inr (2, [.ref g1, .ref g2, .ref g3, .ref g4, .ref g5, .int (nI on), .ref g6, .ref g7, .ref g8])), (g1, .inl (E.2.1 0, 7, .inl d1)), (g2, .inl (E.2.1 0, 7, .inl d2)), (g3, .inl (E.2.1 0, 7, .inl d3)), (g4, .inl (E.2.1 0, 7, .inl d4)), (g5, .inl (E.2.1 0, 7, .inl d5)), (g8, .inl (E.2.1 0, 100, .inl d8)), (e1, .inl (E.2.1 0, 512, .inl u_43)), (e2, .inl (E.2.1 0, 512, .inl u_44)), (e3, .inl (E.2.1 0, 896, .inl u_45)), (e4, .inl (E.2.1 0, 896, .inl u_46))]) hP hD [9, 4, 5, 0, 1, 2, 3, 6, 10, 11, 7, 8] [] rfl rfl (by decide) (by decide) hk1 hFc hP1 hD1
              generalize H1 = H at hP hS ⊢
              have hP : va_P E.1 vwCl [(h0, .inr (3, [.ref of, .ref e1, .ref e2, .ref e3, .ref e4])), (of, .inr (2, [.ref g1, .ref g2, .ref g3, .ref g4, .ref g5, .int (nI on), .ref g6, .ref g7, .ref g8])), (g1, .inl (E.2.1 0, 7, .inl d1)), (g2, .inl (E.2.1 0, 7, .inl d2)), (g3, .inl (E.2.1 0, 7, .inl d3)), (g4, .inl (E.2.1 0, 7, .inl d4)), (g5, .inl (E.2.1 0, 7, .inl d5)), (g8, .inl (E.2.1 0, 100, .inl d8)), (e1, .inl (E.2.1 0, 512, .inl u_43)), (e2, .inl (E.2.1 0, 512, .inl u_44)), (e3, .inl (E.2.1 0, 896, .inl u_45)), (e4, .inl (E.2.1 0, 896, .inl u_46))] H := hP
              have hD : va_D A [(h0, .inr (3, [.ref of, .ref e1, .ref e2, .ref e3, .ref e4])), (of, .inr (2, [.ref g1, .ref g2, .ref g3, .ref g4, .ref g5, .int (nI on), .ref g6, .ref g7, .ref g8])), (g1, .inl (E.2.1 0, 7, .inl d1)), (g2, .inl (E.2.1 0, 7, .inl d2)), (g3, .inl (E.2.1 0, 7, .inl d3)), (g4, .inl (E.2.1 0, 7, .inl d4)), (g5, .inl (E.2.1 0, 7, .inl d5)), (g8, .inl (E.2.1 0, 100, .inl d8)), (e1, .inl (E.2.1 0, 512, .inl u_43)), (e2, .inl (E.2.1 0, 512, .inl u_44)), (e3, .inl (E.2.1 0, 896, .inl u_45)), (e4, .inl (E.2.1 0, 896, .inl u_46))] := hD
              refine lv_iinc (v := (nI (k + 1))) (lv' := [(8, .int (nI (k + 1))), (12, .int (nI w_17)), (11, .int x_14), (10, .int x_11), (9, .int r_6), (0, .ref h0), (1, .int (nI cr)), (2, .int 3), (3, .int (nI se_)), (4, .int po_), (5, .int da), (6, .int co_), (7, .int or_)]) hx hb dX3_extend_179 hl (k := 12) rfl (show nI k + 1 = nI (k + 1) from nI_1 k) (by decide) rfl (fun ls hl => ?_)
              refine lv_goto (tgt := 10) hx hb dX3_extend_182 (by decide) ?_
              exact ih (k + 1) u_43 u_44 u_45 u_46 _ _ _ (by omega) (by omega) (hP.sub [0, 1, 2, 3, 4, 5, 6, 7, 8, 9, 10, 11] rfl) (hD.sub [0, 1, 2, 3, 4, 5, 6, 7, 8, 9, 10, 11] (by decide) rfl) hS (lv_sub hl [5, 6, 7, 8, 9, 10, 11, 12, 0] rfl)
        · refine lv_iconst (v := (-1)) hx hb dX3_extend_38 (by decide) ?_
          refine lv_goto (tgt := 55) hx hb dX3_extend_39 (by decide) ?_
          refine lv_istore (lv' := [(9, .int (-1)), (0, .ref h0), (1, .int (nI cr)), (2, .int 3), (3, .int (nI se_)), (4, .int po_), (5, .int da), (6, .int co_), (7, .int or_), (8, .int (nI k))]) hx hb dX3_extend_55 hl (by decide) rfl (fun ls hl => ?_)
          refine lv_iload hx hb dX3_extend_57 (lv_at hl 0 rfl) ?_
          refine lv_iconst (v := (-1)) hx hb dX3_extend_59 (by decide) ?_
          refine lv_icmp_eq (tgt := 179) hx hb dX3_extend_60 (by decide) (fun _ => ?_) (fun c9 => absurd c9 (by decide))
          refine lv_iinc (v := (nI (k + 1))) (lv' := [(8, .int (nI (k + 1))), (9, .int (-1)), (0, .ref h0), (1, .int (nI cr)), (2, .int 3), (3, .int (nI se_)), (4, .int po_), (5, .int da), (6, .int co_), (7, .int or_)]) hx hb dX3_extend_179 hl (k := 9) rfl (show nI k + 1 = nI (k + 1) from nI_1 k) (by decide) rfl (fun ls hl => ?_)
          refine lv_goto (tgt := 10) hx hb dX3_extend_182 (by decide) ?_
          exact ih (k + 1) c1 c2 c3 c4 _ _ _ (by omega) (by omega) (hP.sub [0, 1, 2, 3, 4, 5, 6, 7, 8, 9, 10, 11] rfl) (hD.sub [0, 1, 2, 3, 4, 5, 6, 7, 8, 9, 10, 11] (by decide) rfl) hS (lv_sub hl [2, 3, 4, 5, 6, 7, 8, 9, 0] rfl)
set_option maxHeartbeats 4000000 in
set_option maxRecDepth 100000 in
theorem c_X3_extend3 (l : Launch) (E : vE) (h0 : Nat) (of : Nat) (e1 : Nat) (e2 : Nat) (e3 : Nat) (e4 : Nat) (g1 : Nat) (g2 : Nat) (g3 : Nat) (g4 : Nat) (g5 : Nat) (g6 : Nat) (g7 : Nat) (g8 : Nat) (on : Nat) (d1 : Nat → Int32) (d2 : Nat → Int32) (d3 : Nat → Int32) (d4 : Nat → Int32) (d5 : Nat → Int32) (d8 : Nat → Int32) (cr : Nat) (se_ : Nat) (po_ : Int32) (da : Int32) (co_ : Int32) (or_ : Int32) (c1 : Nat → Int32) (c2 : Nat → Int32) (c3 : Nat → Int32) (c4 : Nat → Int32) (sz : Nat) (hcr : cr < 4) (hse : se_ < 128) (hd1 : ∀ k, k < 7 → inR (d1 k) 0 9 = true) : Met l yX3_extend wsX3_extend ({ frames := 7, cells := 0, slots := 0, locals := 196 }) (pcW E [.ref h0, .int (nI cr), .int 3, .int (nI se_), .int po_, .int da, .int co_, .int or_] sz [(h0, .inr (3, [.ref of, .ref e1, .ref e2, .ref e3, .ref e4])), (of, .inr (2, [.ref g1, .ref g2, .ref g3, .ref g4, .ref g5, .int (nI on), .ref g6, .ref g7, .ref g8])), (g1, .inl (E.2.1 0, 7, .inl d1)), (g2, .inl (E.2.1 0, 7, .inl d2)), (g3, .inl (E.2.1 0, 7, .inl d3)), (g4, .inl (E.2.1 0, 7, .inl d4)), (g5, .inl (E.2.1 0, 7, .inl d5)), (g8, .inl (E.2.1 0, 100, .inl d8)), (e1, .inl (E.2.1 0, 512, .inl c1)), (e2, .inl (E.2.1 0, 512, .inl c2)), (e3, .inl (E.2.1 0, 896, .inl c3)), (e4, .inl (E.2.1 0, 896, .inl c4))]) (va_Qv (fun (u : (Nat → Int32) × (Nat → Int32) × (Nat → Int32) × (Nat → Int32)) => match u with | (c12, c22, c32, c42) => True) (fun (u : (Nat → Int32) × (Nat → Int32) × (Nat → Int32) × (Nat → Int32)) (t : State) => match u with | (c12, c22, c32, c42) => wB E (va_A [(h0, .inr (3, [.ref of, .ref e1, .ref e2, .ref e3, .ref e4])), (of, .inr (2, [.ref g1, .ref g2, .ref g3, .ref g4, .ref g5, .int (nI on), .ref g6, .ref g7, .ref g8])), (g1, .inl (E.2.1 0, 7, .inl d1)), (g2, .inl (E.2.1 0, 7, .inl d2)), (g3, .inl (E.2.1 0, 7, .inl d3)), (g4, .inl (E.2.1 0, 7, .inl d4)), (g5, .inl (E.2.1 0, 7, .inl d5)), (g8, .inl (E.2.1 0, 100, .inl d8)), (e1, .inl (E.2.1 0, 512, .inl c1)), (e2, .inl (E.2.1 0, 512, .inl c2)), (e3, .inl (E.2.1 0, 896, .inl c3)), (e4, .inl (E.2.1 0, 896, .inl c4))] sz) [(h0, .inr (3, [.ref of, .ref e1, .ref e2, .ref e3, .ref e4])), (of, .inr (2, [.ref g1, .ref g2, .ref g3, .ref g4, .ref g5, .int (nI on), .ref g6, .ref g7, .ref g8])), (g1, .inl (E.2.1 0, 7, .inl d1)), (g2, .inl (E.2.1 0, 7, .inl d2)), (g3, .inl (E.2.1 0, 7, .inl d3)), (g4, .inl (E.2.1 0, 7, .inl d4)), (g5, .inl (E.2.1 0, 7, .inl d5)), (g8, .inl (E.2.1 0, 100, .inl d8)), (e1, .inl (E.2.1 0, 512, .inl c12)), (e2, .inl (E.2.1 0, 512, .inl c22)), (e3, .inl (E.2.1 0, 896, .inl c32)), (e4, .inl (E.2.1 0, 896, .inl c42))] t) (va_A [(h0, .inr (3, [.ref of, .ref e1, .ref e2, .ref e3, .ref e4])), (of, .inr (2, [.ref g1, .ref g2, .ref g3, .ref g4, .ref g5, .int (nI on), .ref g6, .ref g7, .ref g8])), (g1, .inl (E.2.1 0, 7, .inl d1)), (g2, .inl (E.2.1 0, 7, .inl d2)), (g3, .inl (E.2.1 0, 7, .inl d3)), (g4, .inl (E.2.1 0, 7, .inl d4)), (g5, .inl (E.2.1 0, 7, .inl d5)), (g8, .inl (E.2.1 0, 100, .inl d8)), (e1, .inl (E.2.1 0, 512, .inl c1)), (e2, .inl (E.2.1 0, 512, .inl c2)), (e3, .inl (E.2.1 0, 896, .inl c3)), (e4, .inl (E.2.1 0, 896, .inl c4))] sz)) 0 0 (va_A [(h0, .inr (3, [.ref of, .ref e1, .ref e2, .ref e3, .ref e4])), (of, .inr (2, [.ref g1, .ref g2, .ref g3, .ref g4, .ref g5, .int (nI on), .ref g6, .ref g7, .ref g8])), (g1, .inl (E.2.1 0, 7, .inl d1)), (g2, .inl (E.2.1 0, 7, .inl d2)), (g3, .inl (E.2.1 0, 7, .inl d3)), (g4, .inl (E.2.1 0, 7, .inl d4)), (g5, .inl (E.2.1 0, 7, .inl d5)), (g8, .inl (E.2.1 0, 100, .inl d8)), (e1, .inl (E.2.1 0, 512, .inl c1)), (e2, .inl (E.2.1 0, 512, .inl c2)), (e3, .inl (E.2.1 0, 896, .inl c3)), (e4, .inl (E.2.1 0, 896, .inl c4))] sz) := by
  refine Met.ofW (cc := cX3_extend) (maxL := 13) (ret := none) (by decide) rfl ?_
  intro p e s m args below meth c s₁ B hml hv
  obtain ⟨rfl, hsz, hP, hkn, hD0, hst⟩ := hv
  have hx := B.exec
  have hb := B.bytes
  have hr := B.returns
  have hts := atoms_spec (ws := wsX3_extend) B.pre
  have hown : s.vm.findClass RX3 = some m.cls := findClass_of_methodNamed B.named
  have hlocks := B.notSynchronized
  subst hsz
  have hD := hD0.self (sz := s.heap.size)
  have hK := hkn.1
  have hAO := hkn.2.2.1
  generalize hAe : va_A [(h0, .inr (3, [.ref of, .ref e1, .ref e2, .ref e3, .ref e4])), (of, .inr (2, [.ref g1, .ref g2, .ref g3, .ref g4, .ref g5, .int (nI on), .ref g6, .ref g7, .ref g8])), (g1, .inl (E.2.1 0, 7, .inl d1)), (g2, .inl (E.2.1 0, 7, .inl d2)), (g3, .inl (E.2.1 0, 7, .inl d3)), (g4, .inl (E.2.1 0, 7, .inl d4)), (g5, .inl (E.2.1 0, 7, .inl d5)), (g8, .inl (E.2.1 0, 100, .inl d8)), (e1, .inl (E.2.1 0, 512, .inl c1)), (e2, .inl (E.2.1 0, 512, .inl c2)), (e3, .inl (E.2.1 0, 896, .inl c3)), (e4, .inl (E.2.1 0, 896, .inl c4))] s.heap.size = A at hD hst ⊢
  have hA : ∀ q : Nat, s.heap.size ≤ q → A q := fun q h => by rw [← hAe]; exact Or.inr h
  have hS : va_S A s.heap s.heap [] := va_S.rf
  have hP : va_P E.1 vwCl [(h0, .inr (3, [.ref of, .ref e1, .ref e2, .ref e3, .ref e4])), (of, .inr (2, [.ref g1, .ref g2, .ref g3, .ref g4, .ref g5, .int (nI on), .ref g6, .ref g7, .ref g8])), (g1, .inl (E.2.1 0, 7, .inl d1)), (g2, .inl (E.2.1 0, 7, .inl d2)), (g3, .inl (E.2.1 0, 7, .inl d3)), (g4, .inl (E.2.1 0, 7, .inl d4)), (g5, .inl (E.2.1 0, 7, .inl d5)), (g8, .inl (E.2.1 0, 100, .inl d8)), (e1, .inl (E.2.1 0, 512, .inl c1)), (e2, .inl (E.2.1 0, 512, .inl c2)), (e3, .inl (E.2.1 0, 896, .inl c3)), (e4, .inl (E.2.1 0, 896, .inl c4))] s.heap := hP
  have hl := lv_entry ([.ref h0, .int (nI cr), .int 3, .int (nI se_), .int po_, .int da, .int co_, .int or_]) (n := 13) (Nat.le_of_ble_eq_true rfl)
  rw [lg_entry_eq]
  generalize (lg_sl ([.ref h0, .int (nI cr), .int 3, .int (nI se_), .int po_, .int da, .int co_, .int or_]) ++ List.replicate (13 - (lg_sl ([.ref h0, .int (nI cr), .int 3, .int (nI se_), .int po_, .int da, .int co_, .int or_])).length) Slot.unset).toArray = ls at hl ⊢
  have hl : lv_has ls 13 [(0, .ref h0), (1, .int (nI cr)), (2, .int 3), (3, .int (nI se_)), (4, .int po_), (5, .int da), (6, .int co_), (7, .int or_)] := hl
  have fl24 := hts (.fieldLink RX3 24 "BoatsHome$Orders" "offers" "LBoatsHome$Offers;") (by first | exact List.mem_of_getElem? (i := 1) rfl | decide +kernel)
  have fl47 := hts (.fieldLink RX3 47 "BoatsHome$Offers" "size" "I") (by first | exact List.mem_of_getElem? (i := 2) rfl | decide +kernel)
  have fl55 := hts (.fieldLink RX3 55 "BoatsHome$Offers" "days" "[I") (by first | exact List.mem_of_getElem? (i := 3) rfl | decide +kernel)
  have fl70 := hts (.fieldLink RX3 70 "BoatsHome$Offers" "to" "[I") (by first | exact List.mem_of_getElem? (i := 4) rfl | decide +kernel)
  have inX2 : ∀ w ∈ u_ws RX2 TX2 9, w ∈ wsX3_extend := by first | exact fun w h9 => (List.mem_cons_of_mem _ (List.mem_append_right _ h9)) | decide +kernel
  have inX3 : ∀ w ∈ u_ws RX3 TX3 5, w ∈ wsX3_extend := by first | exact fun w h9 => (List.mem_cons_of_mem _ (List.mem_append_left _ (List.mem_append_right _ h9))) | decide +kernel
  refine lv_iload_n hx hb dX3_extend_0 rfl (lv_at hl 2 rfl) ?_
  refine lv_bipush (v := 7) hx hb dX3_extend_1 (by decide) ?_
  refine lv_icmp_lt (tgt := 7) hx hb dX3_extend_3 (by decide) (fun _ => ?_) (fun c9 => absurd c9 (by decide))
  refine lv_iconst (v := 0) hx hb dX3_extend_7 (by decide) ?_
  refine lv_istore (lv' := [(8, .int 0), (0, .ref h0), (1, .int (nI cr)), (2, .int 3), (3, .int (nI se_)), (4, .int po_), (5, .int da), (6, .int co_), (7, .int or_)]) hx hb dX3_extend_8 hl (by decide) rfl (fun ls hl => ?_)
  have hPl := hP.sub (ws' := [(h0, .inr (3, [.ref of, .ref e1, .ref e2, .ref e3, .ref e4])), (of, .inr (2, [.ref g1, .ref g2, .ref g3, .ref g4, .ref g5, .int (nI on), .ref g6, .ref g7, .ref g8])), (g1, .inl (E.2.1 0, 7, .inl d1)), (g2, .inl (E.2.1 0, 7, .inl d2)), (g3, .inl (E.2.1 0, 7, .inl d3)), (g4, .inl (E.2.1 0, 7, .inl d4)), (g5, .inl (E.2.1 0, 7, .inl d5)), (g8, .inl (E.2.1 0, 100, .inl d8)), (e1, .inl (E.2.1 0, 512, .inl c1)), (e2, .inl (E.2.1 0, 512, .inl c2)), (e3, .inl (E.2.1 0, 896, .inl c3)), (e4, .inl (E.2.1 0, 896, .inl c4))]) [0, 1, 2, 3, 4, 5, 6, 7, 8, 9, 10, 11] rfl
  have hDl := hD.sub (ws' := [(h0, .inr (3, [.ref of, .ref e1, .ref e2, .ref e3, .ref e4])), (of, .inr (2, [.ref g1, .ref g2, .ref g3, .ref g4, .ref g5, .int (nI on), .ref g6, .ref g7, .ref g8])), (g1, .inl (E.2.1 0, 7, .inl d1)), (g2, .inl (E.2.1 0, 7, .inl d2)), (g3, .inl (E.2.1 0, 7, .inl d3)), (g4, .inl (E.2.1 0, 7, .inl d4)), (g5, .inl (E.2.1 0, 7, .inl d5)), (g8, .inl (E.2.1 0, 100, .inl d8)), (e1, .inl (E.2.1 0, 512, .inl c1)), (e2, .inl (E.2.1 0, 512, .inl c2)), (e3, .inl (E.2.1 0, 896, .inl c3)), (e4, .inl (E.2.1 0, 896, .inl c4))]) [0, 1, 2, 3, 4, 5, 6, 7, 8, 9, 10, 11] (by decide) rfl
  refine lg_extend3 E h0 of e1 e2 e3 e4 g1 g2 g3 g4 g5 g6 g7 g8 on d1 d2 d3 d4 d5 d8 cr se_ po_ da co_ or_ hx hb hml hown hts hkn hst hA hcr hse hd1 (fun n_1 n_2 n_3 n_4 H locs ls  hP hD hS hl => ?_) 8 0 c1 c2 c3 c4 _ _ _ (by omega) (by omega) hPl hDl hS (lv_sub hl [1, 2, 3, 4, 5, 6, 7, 8, 0] rfl)
  have hP : va_P E.1 vwCl [(h0, .inr (3, [.ref of, .ref e1, .ref e2, .ref e3, .ref e4])), (of, .inr (2, [.ref g1, .ref g2, .ref g3, .ref g4, .ref g5, .int (nI on), .ref g6, .ref g7, .ref g8])), (g1, .inl (E.2.1 0, 7, .inl d1)), (g2, .inl (E.2.1 0, 7, .inl d2)), (g3, .inl (E.2.1 0, 7, .inl d3)), (g4, .inl (E.2.1 0, 7, .inl d4)), (g5, .inl (E.2.1 0, 7, .inl d5)), (g8, .inl (E.2.1 0, 100, .inl d8)), (e1, .inl (E.2.1 0, 512, .inl n_1)), (e2, .inl (E.2.1 0, 512, .inl n_2)), (e3, .inl (E.2.1 0, 896, .inl n_3)), (e4, .inl (E.2.1 0, 896, .inl n_4))] H := hP
  have hD : va_D A [(h0, .inr (3, [.ref of, .ref e1, .ref e2, .ref e3, .ref e4])), (of, .inr (2, [.ref g1, .ref g2, .ref g3, .ref g4, .ref g5, .int (nI on), .ref g6, .ref g7, .ref g8])), (g1, .inl (E.2.1 0, 7, .inl d1)), (g2, .inl (E.2.1 0, 7, .inl d2)), (g3, .inl (E.2.1 0, 7, .inl d3)), (g4, .inl (E.2.1 0, 7, .inl d4)), (g5, .inl (E.2.1 0, 7, .inl d5)), (g8, .inl (E.2.1 0, 100, .inl d8)), (e1, .inl (E.2.1 0, 512, .inl n_1)), (e2, .inl (E.2.1 0, 512, .inl n_2)), (e3, .inl (E.2.1 0, 896, .inl n_3)), (e4, .inl (E.2.1 0, 896, .inl n_4))] := hD
  have hP9 := hP.sub (ws' := [(h0, .inr (3, [.ref of, .ref e1, .ref e2, .ref e3, .ref e4])), (of, .inr (2, [.ref g1, .ref g2, .ref g3, .ref g4, .ref g5, .int (nI on), .ref g6, .ref g7, .ref g8])), (g1, .inl (E.2.1 0, 7, .inl d1)), (g2, .inl (E.2.1 0, 7, .inl d2)), (g3, .inl (E.2.1 0, 7, .inl d3)), (g4, .inl (E.2.1 0, 7, .inl d4)), (g5, .inl (E.2.1 0, 7, .inl d5)), (g8, .inl (E.2.1 0, 100, .inl d8)), (e1, .inl (E.2.1 0, 512, .inl n_1)), (e2, .inl (E.2.1 0, 512, .inl n_2)), (e3, .inl (E.2.1 0, 896, .inl n_3)), (e4, .inl (E.2.1 0, 896, .inl n_4))]) [0, 1, 2, 3, 4, 5, 6, 7, 8, 9, 10, 11] rfl
  have hD9 := hD.sub (ws' := [(h0, .inr (3, [.ref of, .ref e1, .ref e2, .ref e3, .ref e4])), (of, .inr (2, [.ref g1, .ref g2, .ref g3, .ref g4, .ref g5, .int (nI on), .ref g6, .ref g7, .ref g8])), (g1, .inl (E.2.1 0, 7, .inl d1)), (g2, .inl (E.2.1 0, 7, .inl d2)), (g3, .inl (E.2.1 0, 7, .inl d3)), (g4, .inl (E.2.1 0, 7, .inl d4)), (g5, .inl (E.2.1 0, 7, .inl d5)), (g8, .inl (E.2.1 0, 100, .inl d8)), (e1, .inl (E.2.1 0, 512, .inl n_1)), (e2, .inl (E.2.1 0, 512, .inl n_2)), (e3, .inl (E.2.1 0, 896, .inl n_3)), (e4, .inl (E.2.1 0, 896, .inl n_4))]) [0, 1, 2, 3, 4, 5, 6, 7, 8, 9, 10, 11] (by decide) rfl
  exact W.vret hx hb hr (fun t ht hW => ⟨⟨(n_1, n_2, n_3, n_4), rfl, trivial, by rw [ht]; exact hP9, hD9⟩, hS.F ht⟩) hS.2.2 dX3_extend_185
set_option maxHeartbeats 4000000 in
set_option maxRecDepth 100000 in
theorem lg_extend2 {p : Program} {l : Launch} {e : Env} {s : State} {m : MethodId} {args : Array Value} {below : List Frame} {meth : Method} {c : Code} {Q : State → Prop} {A : Nat → Prop} (E : vE) (h0 : Nat) (of : Nat) (e1 : Nat) (e2 : Nat) (e3 : Nat) (e4 : Nat) (g1 : Nat) (g2 : Nat) (g3 : Nat) (g4 : Nat) (g5 : Nat) (g6 : Nat) (g7 : Nat) (g8 : Nat) (on : Nat) (d1 : Nat → Int32) (d2 : Nat → Int32) (d3 : Nat → Int32) (d4 : Nat → Int32) (d5 : Nat → Int32) (d8 : Nat → Int32) (cr : Nat) (se_ : Nat) (po_ : Int32) (da : Int32) (co_ : Int32) (or_ : Int32) (hx : p.tables.exec = Jvm.exec) (hb : c.code = cX3_extend) (hml : c.maxLocals = 13) (hown : s.vm.findClass RX3 = some m.cls) (hts : ∀ w ∈ wsX3_extend, w.before args s = true) (hkn : kn E s) (hst : st E A s s.heap) (hA : ∀ q : Nat, s.heap.size ≤ q → A q) (hcr : cr < 4) (hse : se_ < 128) (hd1 : ∀ k, k < 7 → inR (d1 k) 0 9 = true) (kk : ∀ (c1 : Nat → Int32) (c2 : Nat → Int32) (c3 : Nat → Int32) (c4 : Nat → Int32) (H : Heap) (locs : List Loc) (ls : Array Slot), va_P E.1 vwCl [(h0, .inr (3, [.ref of, .ref e1, .ref e2, .ref e3, .ref e4])), (of, .inr (2, [.ref g1, .ref g2, .ref g3, .ref g4, .ref g5, .int (nI on), .ref g6, .ref g7, .ref g8])), (g1, .inl (E.2.1 0, 7, .inl d1)), (g2, .inl (E.2.1 0, 7, .inl d2)), (g3, .inl (E.2.1 0, 7, .inl d3)), (g4, .inl (E.2.1 0, 7, .inl d4)), (g5, .inl (E.2.1 0, 7, .inl d5)), (g8, .inl (E.2.1 0, 100, .inl d8)), (e1, .inl (E.2.1 0, 512, .inl c1)), (e2, .inl (E.2.1 0, 512, .inl c2)), (e3, .inl (E.2.1 0, 896, .inl c3)), (e4, .inl (E.2.1 0, 896, .inl c4))] H → va_D A [(h0, .inr (3, [.ref of, .ref e1, .ref e2, .ref e3, .ref e4])), (of, .inr (2, [.ref g1, .ref g2, .ref g3, .ref g4, .ref g5, .int (nI on), .ref g6, .ref g7, .ref g8])), (g1, .inl (E.2.1 0, 7, .inl d1)), (g2, .inl (E.2.1 0, 7, .inl d2)), (g3, .inl (E.2.1 0, 7, .inl d3)), (g4, .inl (E.2.1 0, 7, .inl d4)), (g5, .inl (E.2.1 0, 7, .inl d5)), (g8, .inl (E.2.1 0, 100, .inl d8)), (e1, .inl (E.2.1 0, 512, .inl c1)), (e2, .inl (E.2.1 0, 512, .inl c2)), (e3, .inl (E.2.1 0, 896, .inl c3)), (e4, .inl (E.2.1 0, 896, .inl c4))] → va_S A s.heap H locs → lv_has ls 13 [(0, .ref h0)] → W p l e ({ frames := 8, cells := 0, slots := 0, locals := 228 }) s m args below meth c H locs 0 0 Q (F0 m 185 ls [])) : ∀ (n0 : Nat) (k : Nat) (c1 : Nat → Int32) (c2 : Nat → Int32) (c3 : Nat → Int32) (c4 : Nat → Int32) (H : Heap) (locs : List Loc) (ls : Array Slot), 7 - k < n0 → (k ≤ 7) → va_P E.1 vwCl [(h0, .inr (3, [.ref of, .ref e1, .ref e2, .ref e3, .ref e4])), (of, .inr (2, [.ref g1, .ref g2, .ref g3, .ref g4, .ref g5, .int (nI on), .ref g6, .ref g7, .ref g8])), (g1, .inl (E.2.1 0, 7, .inl d1)), (g2, .inl (E.2.1 0, 7, .inl d2)), (g3, .inl (E.2.1 0, 7, .inl d3)), (g4, .inl (E.2.1 0, 7, .inl d4)), (g5, .inl (E.2.1 0, 7, .inl d5)), (g8, .inl (E.2.1 0, 100, .inl d8)), (e1, .inl (E.2.1 0, 512, .inl c1)), (e2, .inl (E.2.1 0, 512, .inl c2)), (e3, .inl (E.2.1 0, 896, .inl c3)), (e4, .inl (E.2.1 0, 896, .inl c4))] H → va_D A [(h0, .inr (3, [.ref of, .ref e1, .ref e2, .ref e3, .ref e4])), (of, .inr (2, [.ref g1, .ref g2, .ref g3, .ref g4, .ref g5, .int (nI on), .ref g6, .ref g7, .ref g8])), (g1, .inl (E.2.1 0, 7, .inl d1)), (g2, .inl (E.2.1 0, 7, .inl d2)), (g3, .inl (E.2.1 0, 7, .inl d3)), (g4, .inl (E.2.1 0, 7, .inl d4)), (g5, .inl (E.2.1 0, 7, .inl d5)), (g8, .inl (E.2.1 0, 100, .inl d8)), (e1, .inl (E.2.1 0, 512, .inl c1)), (e2, .inl (E.2.1 0, 512, .inl c2)), (e3, .inl (E.2.1 0, 896, .inl c3)), (e4, .inl (E.2.1 0, 896, .inl c4))] → va_S A s.heap H locs → lv_has ls 13 [(0, .ref h0), (1, .int (nI cr)), (2, .int 2), (3, .int (nI se_)), (4, .int po_), (5, .int da), (6, .int co_), (7, .int or_), (8, .int (nI k))] → W p l e ({ frames := 8, cells := 0, slots := 0, locals := 228 }) s m args below meth c H locs 0 0 Q (F0 m 10 ls []) := by
  have hK := hkn.1
  have hAO := hkn.2.2.1
  have fl24 := hts (.fieldLink RX3 24 "BoatsHome$Orders" "offers" "LBoatsHome$Offers;") (by first | exact List.mem_of_getElem? (i := 1) rfl | decide +kernel)
  have fl47 := hts (.fieldLink RX3 47 "BoatsHome$Offers" "size" "I") (by first | exact List.mem_of_getElem? (i := 2) rfl | decide +kernel)
  have fl55 := hts (.fieldLink RX3 55 "BoatsHome$Offers" "days" "[I") (by first | exact List.mem_of_getElem? (i := 3) rfl | decide +kernel)
  have fl70 := hts (.fieldLink RX3 70 "BoatsHome$Offers" "to" "[I") (by first | exact List.mem_of_getElem? (i := 4) rfl | decide +kernel)
  have inX2 : ∀ w ∈ u_ws RX2 TX2 9, w ∈ wsX3_extend := by first | exact fun w h9 => (List.mem_cons_of_mem _ (List.mem_append_right _ h9)) | decide +kernel
  have inX3 : ∀ w ∈ u_ws RX3 TX3 5, w ∈ wsX3_extend := by first | exact fun w h9 => (List.mem_cons_of_mem _ (List.mem_append_left _ (List.mem_append_right _ h9))) | decide +kernel
  intro n0
  induction n0 with
  | zero =>
    intro k c1 c2 c3 c4 H locs ls hn0
    exact absurd hn0 (Nat.not_lt_zero _)
  | succ n0 ih =>
    intro k c1 c2 c3 c4 H locs ls hn0 hk hP hD hS hl
    refine lv_iload hx hb dX3_extend_10 (lv_at hl 8 rfl) ?_
    refine lv_aload_n hx hb dX3_extend_12 rfl (lv_at hl 0 rfl) ?_
    refine va_get (D := E.1) (ci := 3) (v := .ref of) (C := RX3) (T := TX3) (N := 5) hx hb hts inX3 hown hK hP 0 rfl rfl 0 (by decide) fl24 (fun _ h9 => h9) rfl dX3_extend_13 ?_
    refine va_get (D := E.1) (ci := 2) (v := .int (nI on)) (C := RX2) (T := TX2) (N := 9) hx hb hts inX2 hown hK hP 1 rfl rfl 5 (by decide) fl47 (fun _ h9 => h9) rfl dX3_extend_16 ?_
    refine lv_icmp_ge (tgt := 185) hx hb dX3_extend_19 (by decide) (fun c_1 => ?_) (fun c_1 => ?_)
    · exact kk c1 c2 c3 c4 _ _ _  (hP.sub [0, 1, 2, 3, 4, 5, 6, 7, 8, 9, 10, 11] rfl) (hD.sub [0, 1, 2, 3, 4, 5, 6, 7, 8, 9, 10, 11] (by decide) rfl) hS (lv_sub hl [0] rfl)
    · refine lv_iload hx hb dX3_extend_22 (lv_at hl 8 rfl) ?_
      refine lv_bipush (v := 7) hx hb dX3_extend_24 (by decide) ?_
      refine lv_icmp_ge (tgt := 185) hx hb dX3_extend_26 (by decide) (fun c_2 => ?_) (fun c_2 => ?_)
      · exact kk c1 c2 c3 c4 _ _ _  (hP.sub [0, 1, 2, 3, 4, 5, 6, 7, 8, 9, 10, 11] rfl) (hD.sub [0, 1, 2, 3, 4, 5, 6, 7, 8, 9, 10, 11] (by decide) rfl) hS (lv_sub hl [0] rfl)
      · have hlt : k < 7 := by
          rcases Nat.lt_or_ge k 7 with q | q
          · exact q
          · exact absurd (show (7 : Int32) ≤ nI k from nI_le (a := 7) q (by omega)) c_2
        refine lv_iload_n hx hb dX3_extend_29 rfl (lv_at hl 3 rfl) ?_
        refine lv_iload hx hb dX3_extend_30 (lv_at hl 8 rfl) ?_
        refine lv_ishr hx hb dX3_extend_32 ?_
        refine lv_topi (fun x_3 ex_3 => ?_)
        refine lv_iconst (v := 1) hx hb dX3_extend_33 (by decide) ?_
        refine lv_iand hx hb dX3_extend_34 ?_
        refine lv_topi (fun x_4 ex_4 => ?_)
        refine lv_if_eq (tgt := 42) hx hb dX3_extend_35 (by decide) (fun c_5 => ?_) (fun c_5 => ?_)
        · refine lv_aload_n hx hb dX3_extend_42 rfl (lv_at hl 0 rfl) ?_
          refine va_get (D := E.1) (ci := 3) (v := .ref of) (C := RX3) (T := TX3) (N := 5) hx hb hts inX3 hown hK hP 0 rfl rfl 0 (by decide) fl24 (fun _ h9 => h9) rfl dX3_extend_43 ?_
          refine lv_iload hx hb dX3_extend_46 (lv_at hl 8 rfl) ?_
          refine lv_iload hx hb dX3_extend_48 (lv_at hl 4 rfl) ?_
          refine lv_iload hx hb dX3_extend_50 (lv_at hl 5 rfl) ?_
          have hPc := hP.sub (ws' := [(of, .inr (2, [.ref g1, .ref g2, .ref g3, .ref g4, .ref g5, .int (nI on), .ref g6, .ref g7, .ref g8])), (g1, .inl (E.2.1 0, 7, .inl d1)), (g4, .inl (E.2.1 0, 7, .inl d4)), (g5, .inl (E.2.1 0, 7, .inl d5)), (g8, .inl (E.2.1 0, 100, .inl d8))]) [1, 2, 5, 6, 7] rfl
          have hDc := hD.sub (ws' := [(of, .inr (2, [.ref g1, .ref g2, .ref g3, .ref g4, .ref g5, .int (nI on), .ref g6, .ref g7, .ref g8])), (g1, .inl (E.2.1 0, 7, .inl d1)), (g4, .inl (E.2.1 0, 7, .inl d4)), (g5, .inl (E.2.1 0, 7, .inl d5)), (g8, .inl (E.2.1 0, 100, .inl d8))]) [1, 2, 5, 6, 7] (by decide) rfl
          have hFc := va_free (wc := [(of, .inr (2, [.ref g1, .ref g2, .ref g3, .ref g4, .ref g5, .int (nI on), .ref g6, .ref g7, .ref g8])), (g1, .inl (E.2.1 0, 7, .inl d1)), (g4, .inl (E.2.1 0, 7, .inl d4)), (g5, .inl (E.2.1 0, 7, .inl d5)), (g8, .inl (E.2.1 0, 100, .inl d8))]) hD hS hA [1, 2, 5, 6, 7] rfl
          refine va_calli (va_runV (As := [.int (nI k), .int po_, .int da]) (rest := []) ⟨hx, hb, hml, hown, hts⟩ (c_X2_startOf l E of g1 g2 g3 g4 g5 g6 g7 g8 on d1 d4 d5 d8 k po_ da H.size hlt hd1) (cwV 3 hts gX3_extend_X2_startOf rfl rfl rfl hdV_X2_startOf ⟨Nat.le_of_ble_eq_true rfl, Nat.le_of_ble_eq_true rfl⟩) ⟨pcW_blind, va_recv hK hPc (ci := 2) (q0 := 0) rfl rfl, (pcW_pre hPc hkn hDc hst hS hFc)⟩ rfl rfl hl.1 rfl (lv_room (Nat.le_of_ble_eq_true rfl)) dX3_extend_52 ⟨Nat.le_of_ble_eq_true rfl, Nat.le_of_ble_eq_true rfl⟩) hS (fun q _ h => hFc q h) hFc (fun r_6 u t H1 locs ht hvm hw_7 hB hz1 hk1 hS => ?_)
          obtain ⟨hP1, hD1⟩ := hB
          rw [ht] at hP1
          try dsimp only at hw_7
          obtain ⟨hP, hD⟩ := va_join (wr := [(h0, .inr (3, [.ref of, .ref e1, .ref e2, .ref e3, .ref e4])), (g2, .inl (E.2.1 0, 7, .inl d2)), (g3, .inl (E.2.1 0, 7, .inl d3)), (e1, .inl (E.2.1 0, 512, .inl c1)), (e2, .inl (E.2.1 0, 512, .inl c2)), (e3, .inl (E.2.1 0, 896, .inl c3)), (e4, .inl (E.2.1 0, 896, .inl c4))]) (w1 := [(of, .inr (2, [.ref g1, .ref g2, .ref g3, .ref g4, .ref g5, .int (nI on), .ref g6, .ref g7, .ref g8])), (g1, .inl (E.2.1 0, 7, .inl d1)), (g4, .inl (E.2.1 0, 7, .inl d4)), (g5, .inl (E.2.1 0, 7, .inl d5)), (g8, .inl (E.2.1 0, 100, .inl d8))]) hP hD [1, 2, 5, 6, 7] [0, 3, 4, 8, 9, 10, 11] rfl rfl (by decide) (by decide) hk1 hFc hP1 hD1
          generalize H1 = H at hP hS ⊢
          have hP : va_P E.1 vwCl [(h0, .inr (3, [.ref of, .ref e1, .ref e2, .ref e3, .ref e4])), (g2, .inl (E.2.1 0, 7, .inl d2)), (g3, .inl (E.2.1 0, 7, .inl d3)), (e1, .inl (E.2.1 0, 512, .inl c1)), (e2, .inl (E.2.1 0, 512, .inl c2)), (e3, .inl (E.2.1 0, 896, .inl c3)), (e4, .inl (E.2.1 0, 896, .inl c4)), (of, .inr (2, [.ref g1, .ref g2, .ref g3, .ref g4, .ref g5, .int (nI on), .ref g6, .ref g7, .ref g8])), (g1, .inl (E.2.1 0, 7, .inl d1)), (g4, .inl (E.2.1 0, 7, .inl d4)), (g5, .inl (E.2.1 0, 7, .inl d5)), (g8, .inl (E.2.1 0, 100, .inl d8))] H := hP
          have hD : va_D A [(h0, .inr (3, [.ref of, .ref e1, .ref e2, .ref e3, .ref e4])), (g2, .inl (E.2.1 0, 7, .inl d2)), (g3, .inl (E.2.1 0, 7, .inl d3)), (e1, .inl (E.2.1 0, 512, .inl c1)), (e2, .inl (E.2.1 0, 512, .inl c2)), (e3, .inl (E.2.1 0, 896, .inl c3)), (e4, .inl (E.2.1 0, 896, .inl c4)), (of, .inr (2, [.ref g1, .ref g2, .ref g3, .ref g4, .ref g5, .int (nI on), .ref g6, .ref g7, .ref g8])), (g1, .inl (E.2.1 0, 7, .inl d1)), (g4, .inl (E.2.1 0, 7, .inl d4)), (g5, .inl (E.2.1 0, 7, .inl d5)), (g8, .inl (E.2.1 0, 100, .inl d8))] := hD
          refine lv_istore (lv' := [(9, .int r_6), (0, .ref h0), (1, .int (nI cr)), (2, .int 2), (3, .int (nI se_)), (4, .int po_), (5, .int da), (6, .int co_), (7, .int or_), (8, .int (nI k))]) hx hb dX3_extend_55 hl (by decide) rfl (fun ls hl => ?_)
          refine lv_iload hx hb dX3_extend_57 (lv_at hl 0 rfl) ?_
          refine lv_iconst (v := (-1)) hx hb dX3_extend_59 (by decide) ?_
          refine lv_icmp_eq (tgt := 179) hx hb dX3_extend_60 (by decide) (fun c_8 => ?_) (fun c_8 => ?_)
          · refine lv_iinc (v := (nI (k + 1))) (lv' := [(8, .int (nI (k + 1))), (9, .int r_6), (0, .ref h0), (1, .int (nI cr)), (2, .int 2), (3, .int (nI se_)), (4, .int po_), (5, .int da), (6, .int co_), (7, .int or_)]) hx hb dX3_extend_179 hl (k := 9) rfl (show nI k + 1 = nI (k + 1) from nI_1 k) (by decide) rfl (fun ls hl => ?_)
            refine lv_goto (tgt := 10) hx hb dX3_extend_182 (by decide) ?_
            exact ih (k + 1) c1 c2 c3 c4 _ _ _ (by omega) (by omega) (hP.sub [0, 7, 8, 1, 2, 9, 10, 11, 3, 4, 5, 6] rfl) (hD.sub [0, 7, 8, 1, 2, 9, 10, 11, 3, 4, 5, 6] (by decide) rfl) hS (lv_sub hl [2, 3, 4, 5, 6, 7, 8, 9, 0] rfl)
          · refine lv_iload hx hb dX3_extend_63 (lv_at hl 0 rfl) ?_
            refine lv_aload_n hx hb dX3_extend_65 rfl (lv_at hl 1 rfl) ?_
            refine va_get (D := E.1) (ci := 3) (v := .ref of) (C := RX3) (T := TX3) (N := 5) hx hb hts inX3 hown hK hP 0 rfl rfl 0 (by decide) fl24 (fun _ h9 => h9) rfl dX3_extend_66 ?_
            refine va_get (D := E.1) (ci := 2) (v := .ref g3) (C := RX2) (T := TX2) (N := 9) hx hb hts inX2 hown hK hP 7 rfl rfl 2 (by decide) fl55 (fun _ h9 => h9) rfl dX3_extend_69 ?_
            refine lv_iload hx hb dX3_extend_72 (lv_at hl 9 rfl) ?_
            have hi_9 : vp_in (nI k) 7 := vp_in_nI hlt (by decide)
            refine va_iald hx hb hK hP 2 0 rfl rfl hi_9 dX3_extend_74 ?_
            refine lv_topi (fun x_10 ex_10 => ?_)
            refine lv_iadd hx hb dX3_extend_75 ?_
            refine lv_topi (fun x_11 ex_11 => ?_)
            refine lv_istore (lv' := [(10, .int x_11), (9, .int r_6), (0, .ref h0), (1, .int (nI cr)), (2, .int 2), (3, .int (nI se_)), (4, .int po_), (5, .int da), (6, .int co_), (7, .int or_), (8, .int (nI k))]) hx hb dX3_extend_76 hl (by decide) rfl (fun ls hl => ?_)
            refine lv_iload hx hb dX3_extend_78 (lv_at hl 8 rfl) ?_
            refine lv_aload_n hx hb dX3_extend_80 rfl (lv_at hl 2 rfl) ?_
            refine va_get (D := E.1) (ci := 3) (v := .ref of) (C := RX3) (T := TX3) (N := 5) hx hb hts inX3 hown hK hP 0 rfl rfl 0 (by decide) fl24 (fun _ h9 => h9) rfl dX3_extend_81 ?_
            refine lv_iload hx hb dX3_extend_84 (lv_at hl 10 rfl) ?_
            refine lv_iload hx hb dX3_extend_86 (lv_at hl 6 rfl) ?_
            have hPc := hP.sub (ws' := [(of, .inr (2, [.ref g1, .ref g2, .ref g3, .ref g4, .ref g5, .int (nI on), .ref g6, .ref g7, .ref g8])), (g1, .inl (E.2.1 0, 7, .inl d1)), (g8, .inl (E.2.1 0, 100, .inl d8))]) [7, 8, 11] rfl
            have hDc := hD.sub (ws' := [(of, .inr (2, [.ref g1, .ref g2, .ref g3, .ref g4, .ref g5, .int (nI on), .ref g6, .ref g7, .ref g8])), (g1, .inl (E.2.1 0, 7, .inl d1)), (g8, .inl (E.2.1 0, 100, .inl d8))]) [7, 8, 11] (by decide) rfl
            have hFc := va_free (wc := [(of, .inr (2, [.ref g1, .ref g2, .ref g3, .ref g4, .ref g5, .int (nI on), .ref g6, .ref g7, .ref g8])), (g1, .inl (E.2.1 0, 7, .inl d1)), (g8, .inl (E.2.1 0, 100, .inl d8))]) hD hS hA [7, 8, 11] rfl
            refine va_calli (va_runV (As := [.int (nI k), .int po_]) (rest := [.int co_]) ⟨hx, hb, hml, hown, hts⟩ (c_X2_fareTo l E of g1 g2 g3 g4 g5 g6 g7 g8 on d1 d8 k po_ H.size hlt hd1) (cwV 2 hts gX3_extend_X2_fareTo rfl rfl rfl hdV_X2_fareTo ⟨Nat.le_of_ble_eq_true rfl, Nat.le_of_ble_eq_true rfl⟩) ⟨pcW_blind, va_recv hK hPc (ci := 2) (q0 := 0) rfl rfl, (pcW_pre hPc hkn hDc hst hS hFc)⟩ rfl rfl hl.1 rfl (lv_room (Nat.le_of_ble_eq_true rfl)) dX3_extend_88 ⟨Nat.le_of_ble_eq_true rfl, Nat.le_of_ble_eq_true rfl⟩) hS (fun q _ h => hFc q h) hFc (fun r_12 u t H1 locs ht hvm hw_13 hB hz1 hk1 hS => ?_)
            obtain ⟨hP1, hD1⟩ := hB
            rw [ht] at hP1
            try dsimp only at hw_13
            obtain ⟨hP, hD⟩ := va_join (wr := [(h0, .inr (3, [.ref of, .ref e1, .ref e2, .ref e3, .ref e4])), (g2, .inl (E.2.1 0, 7, .inl d2)), (g3, .inl (E.2.1 0, 7, .inl d3)), (e1, .inl (E.2.1 0, 512, .inl c1)), (e2, .inl (E.2.1 0, 512, .inl c2)), (e3, .inl (E.2.1 0, 896, .inl c3)), (e4, .inl (E.2.1 0, 896, .inl c4)), (g4, .inl (E.2.1 0, 7, .inl d4)), (g5, .inl (E.2.1 0, 7, .inl d5))]) (w1 := [(of, .inr (2, [.ref g1, .ref g2, .ref g3, .ref g4, .ref g5, .int (nI on), .ref g6, .ref g7, .ref g8])), (g1, .inl (E.2.1 0, 7, .inl d1)), (g8, .inl (E.2.1 0, 100, .inl d8))]) hP hD [7, 8, 11] [0, 1, 2, 3, 4, 5, 6, 9, 10] rfl rfl (by decide) (by decide) hk1 hFc hP1 hD1
            generalize H1 = H at hP hS ⊢
            have hP : va_P E.1 vwCl [(h0, .inr (3, [.ref of, .ref e1, .ref e2, .ref e3, .ref e4])), (g2, .inl (E.2.1 0, 7, .inl d2)), (g3, .inl (E.2.1 0, 7, .inl d3)), (e1, .inl (E.2.1 0, 512, .inl c1)), (e2, .inl (E.2.1 0, 512, .inl c2)), (e3, .inl (E.2.1 0, 896, .inl c3)), (e4, .inl (E.2.1 0, 896, .inl c4)), (g4, .inl (E.2.1 0, 7, .inl d4)), (g5, .inl (E.2.1 0, 7, .inl d5)), (of, .inr (2, [.ref g1, .ref g2, .ref g3, .ref g4, .ref g5, .int (nI on), .ref g6, .ref g7, .ref g8])), (g1, .inl (E.2.1 0, 7, .inl d1)), (g8, .inl (E.2.1 0, 100, .inl d8))] H := hP
            have hD : va_D A [(h0, .inr (3, [.ref of, .ref e1, .ref e2, .ref e3, .ref e4])), (g2, .inl (E.2.1 0, 7, .inl d2)), (g3, .inl (E.2.1 0, 7, .inl d3)), (e1, .inl (E.2.1 0, 512, .inl c1)), (e2, .inl (E.2.1 0, 512, .inl c2)), (e3, .inl (E.2.1 0, 896, .inl c3)), (e4, .inl (E.2.1 0, 896, .inl c4)), (g4, .inl (E.2.1 0, 7, .inl d4)), (g5, .inl (E.2.1 0, 7, .inl d5)), (of, .inr (2, [.ref g1, .ref g2, .ref g3, .ref g4, .ref g5, .int (nI on), .ref g6, .ref g7, .ref g8])), (g1, .inl (E.2.1 0, 7, .inl d1)), (g8, .inl (E.2.1 0, 100, .inl d8))] := hD
            refine lv_iadd hx hb dX3_extend_91 ?_
            refine lv_topi (fun x_14 ex_14 => ?_)
            refine lv_istore (lv' := [(11, .int x_14), (10, .int x_11), (9, .int r_6), (0, .ref h0), (1, .int (nI cr)), (2, .int 2), (3, .int (nI se_)), (4, .int po_), (5, .int da), (6, .int co_), (7, .int or_), (8, .int (nI k))]) hx hb dX3_extend_92 hl (by decide) rfl (fun ls hl => ?_)
            refine lv_iload_n hx hb dX3_extend_94 rfl (lv_at hl 6 rfl) ?_
            refine lv_iconst (v := 1) hx hb dX3_extend_95 (by decide) ?_
            refine lv_iload hx hb dX3_extend_96 (lv_at hl 11 rfl) ?_
            refine lv_ishl hx hb dX3_extend_98 ?_
            refine lv_topi (fun x_15 ex_15 => ?_)
            refine lv_ior hx hb dX3_extend_99 ?_
            refine lv_topi (fun x_16 ex_16 => ?_)
            obtain ⟨w_17, hwd_18, ew_19⟩ : ∃ w, w < 128 ∧ x_16 = nI w := by rw [ex_16, ex_15]; exact or_bit hse hlt
            subst ew_19
            refine lv_istore (lv' := [(12, .int (nI w_17)), (11, .int x_14), (10, .int x_11), (9, .int r_6), (0, .ref h0), (1, .int (nI cr)), (2, .int 2), (3, .int (nI se_)), (4, .int po_), (5, .int da), (6, .int co_), (7, .int or_), (8, .int (nI k))]) hx hb dX3_extend_100 hl (by decide) rfl (fun ls hl => ?_)
            refine lv_aload_n hx hb dX3_extend_102 rfl (lv_at hl 4 rfl) ?_
            refine lv_iload hx hb dX3_extend_103 (lv_at hl 0 rfl) ?_
            refine lv_bipush (v := 7) hx hb dX3_extend_105 (by decide) ?_
            refine lv_imul hx hb dX3_extend_107 ?_
            refine lv_topi (fun x_20 ex_20 => ?_)
            obtain rfl : x_20 = nI (w_17 * 7) := ex_20.trans (pk_mul w_17 7)
            refine lv_iload hx hb dX3_extend_108 (lv_at hl 12 rfl) ?_
            refine lv_iadd hx hb dX3_extend_110 ?_
            refine lv_topi (fun x_21 ex_21 => ?_)
            obtain rfl : x_21 = nI ((w_17 * 7) + k) := ex_21.trans (nI_add (w_17 * 7) k)
            refine lv_iload hx hb dX3_extend_111 (lv_at hl 2 rfl) ?_
            refine lv_iload hx hb dX3_extend_113 (lv_at hl 1 rfl) ?_
            have hPc := hP.sub (ws' := [(h0, .inr (3, [.ref of, .ref e1, .ref e2, .ref e3, .ref e4])), (e3, .inl (E.2.1 0, 896, .inl c3)), (e4, .inl (E.2.1 0, 896, .inl c4))]) [0, 5, 6] rfl
            have hDc := hD.sub (ws' := [(h0, .inr (3, [.ref of, .ref e1, .ref e2, .ref e3, .ref e4])), (e3, .inl (E.2.1 0, 896, .inl c3)), (e4, .inl (E.2.1 0, 896, .inl c4))]) [0, 5, 6] (by decide) rfl
            have hFc := va_free (wc := [(h0, .inr (3, [.ref of, .ref e1, .ref e2, .ref e3, .ref e4])), (e3, .inl (E.2.1 0, 896, .inl c3)), (e4, .inl (E.2.1 0, 896, .inl c4))]) hD hS hA [0, 5, 6] rfl
            refine va_calli (va_runV (As := [.int (nI ((w_17 * 7) + k)), .int x_11, .int x_14]) (rest := []) ⟨hx, hb, hml, hown, hts⟩ (c_X3_outdone l E h0 of e1 e2 e3 e4 ((w_17 * 7) + k) x_11 x_14 c3 c4 H.size (by omega)) (cwV 3 hts gX3_extend_X3_outdone rfl rfl rfl hdV_X3_outdone ⟨Nat.le_of_ble_eq_true rfl, Nat.le_of_ble_eq_true rfl⟩) ⟨pcW_blind, va_recv hK hPc (ci := 3) (q0 := 0) rfl rfl, (pcW_pre hPc hkn hDc hst hS hFc)⟩ rfl rfl hl.1 rfl (lv_room (Nat.le_of_ble_eq_true rfl)) dX3_extend_115 ⟨Nat.le_of_ble_eq_true rfl, Nat.le_of_ble_eq_true rfl⟩) hS (fun q _ h => hFc q h) hFc (fun r_22 u t H1 locs ht hvm hw_23 hB hz1 hk1 hS => ?_)
            obtain ⟨u_24, u_25⟩ := u
            obtain ⟨hP1, hD1⟩ := hB
            rw [ht] at hP1
            try dsimp only at hw_23
            obtain ⟨hP, hD⟩ := va_join (wr := [(g2, .inl (E.2.1 0, 7, .inl d2)), (g3, .inl (E.2.1 0, 7, .inl d3)), (e1, .inl (E.2.1 0, 512, .inl c1)), (e2, .inl (E.2.1 0, 512, .inl c2)), (g4, .inl (E.2.1 0, 7, .inl d4)), (g5, .inl (E.2.1 0, 7, .inl d5)), (of, .inr (2, [.ref g1, .ref g2, .ref g3, .ref g4, .ref g5, .int (nI on), .ref g6, .ref g7, .ref g8])), (g1, .inl (E.2.1 0, 7, .inl d1)), (g8, .inl (E.2.1 0, 100, .inl d8))]) (w1 := [(h0, .inr (3, [.ref of, .ref e1, .ref e2, .ref e3, .ref e4])), (e3, .inl (E.2.1 0, 896, .inl u_24)), (e4, .inl (E.2.1 0, 896, .inl u_25))]) hP hD [0, 5, 6] [1, 2, 3, 4, 7, 8, 9, 10, 11] rfl rfl (by decide) (by decide) hk1 hFc hP1 hD1
            generalize H1 = H at hP hS ⊢
            have hP : va_P E.1 vwCl [(g2, .inl (E.2.1 0, 7, .inl d2)), (g3, .inl (E.2.1 0, 7, .inl d3)), (e1, .inl (E.2.1 0, 512, .inl c1)), (e2, .inl (E.2.1 0, 512, .inl c2)), (g4, .inl (E.2.1 0, 7, .inl d4)), (g5, .inl (E.2.1 0, 7, .inl d5)), (of, .inr (2, [.ref g1, .ref g2, .ref g3, .ref g4, .ref g5, .int (nI on), .ref g6, .ref g7, .ref g8])), (g1, .inl (E.2.1 0, 7, .inl d1)), (g8, .inl (E.2.1 0, 100, .inl d8)), (h0, .inr (3, [.ref of, .ref e1, .ref e2, .ref e3, .ref e4])), (e3, .inl (E.2.1 0, 896, .inl u_24)), (e4, .inl (E.2.1 0, 896, .inl u_25))] H := hP
            have hD : va_D A [(g2, .inl (E.2.1 0, 7, .inl d2)), (g3, .inl (E.2.1 0, 7, .inl d3)), (e1, .inl (E.2.1 0, 512, .inl c1)), (e2, .inl (E.2.1 0, 512, .inl c2)), (g4, .inl (E.2.1 0, 7, .inl d4)), (g5, .inl (E.2.1 0, 7, .inl d5)), (of, .inr (2, [.ref g1, .ref g2, .ref g3, .ref g4, .ref g5, .int (nI on), .ref g6, .ref g7, .ref g8])), (g1, .inl (E.2.1 0, 7, .inl d1)), (g8, .inl (E.2.1 0, 100, .inl d8)), (h0, .inr (3, [.ref of, .ref e1, .ref e2, .ref e3, .ref e4])), (e3, .inl (E.2.1 0, 896, .inl u_24)), (e4, .inl (E.2.1 0, 896, .inl u_25))] := hD
            refine lv_if_ne (tgt := 179) hx hb dX3_extend_118 (by decide) (fun c_26 => ?_) (fun c_26 => ?_)
            · refine lv_iinc (v := (nI (k + 1))) (lv' := [(8, .int (nI (k + 1))), (12, .int (nI w_17)), (11, .int x_14), (10, .int x_11), (9, .int r_6), (0, .ref h0), (1, .int (nI cr)), (2, .int 2), (3, .int (nI se_)), (4, .int po_), (5, .int da), (6, .int co_), (7, .int or_)]) hx hb dX3_extend_179 hl (k := 12) rfl (show nI k + 1 = nI (k + 1) from nI_1 k) (by decide) rfl (fun ls hl => ?_)
              refine lv_goto (tgt := 10) hx hb dX3_extend_182 (by decide) ?_
              exact ih (k + 1) c1 c2 u_24 u_25 _ _ _ (by omega) (by omega) (hP.sub [9, 6, 7, 0, 1, 4, 5, 8, 2, 3, 10, 11] rfl) (hD.sub [9, 6, 7, 0, 1, 4, 5, 8, 2, 3, 10, 11] (by decide) rfl) hS (lv_sub hl [5, 6, 7, 8, 9, 10, 11, 12, 0] rfl)
            · refine lv_aload_n hx hb dX3_extend_121 rfl (lv_at hl 4 rfl) ?_
              refine lv_iload_n hx hb dX3_extend_122 rfl (lv_at hl 5 rfl) ?_
              refine lv_sipush (v := 128) hx hb dX3_extend_123 (by decide) ?_
              refine lv_imul hx hb dX3_extend_126 ?_
              refine lv_topi (fun x_27 ex_27 => ?_)
              obtain rfl : x_27 = nI (cr * 128) := ex_27.trans (pk_mul cr 128)
              refine lv_iload hx hb dX3_extend_127 (lv_at hl 0 rfl) ?_
              refine lv_iadd hx hb dX3_extend_129 ?_
              refine lv_topi (fun x_28 ex_28 => ?_)
              obtain rfl : x_28 = nI ((cr * 128) + w_17) := ex_28.trans (nI_add (cr * 128) w_17)
              refine lv_iload hx hb dX3_extend_130 (lv_at hl 1 rfl) ?_
              refine lv_iload hx hb dX3_extend_132 (lv_at hl 11 rfl) ?_
              refine lv_bipush (v := 8) hx hb dX3_extend_134 (by decide) ?_
              refine lv_imul hx hb dX3_extend_136 ?_
              refine lv_topi (fun x_29 ex_29 => ?_)
              refine lv_iload hx hb dX3_extend_137 (lv_at hl 12 rfl) ?_
              refine lv_iadd hx hb dX3_extend_139 ?_
              refine lv_topi (fun x_30 ex_30 => ?_)
              refine lv_iconst (v := 1) hx hb dX3_extend_140 (by decide) ?_
              refine lv_iadd hx hb dX3_extend_141 ?_
              refine lv_topi (fun x_31 ex_31 => ?_)
              have hPc := hP.sub (ws' := [(h0, .inr (3, [.ref of, .ref e1, .ref e2, .ref e3, .ref e4])), (e1, .inl (E.2.1 0, 512, .inl c1)), (e2, .inl (E.2.1 0, 512, .inl c2))]) [9, 2, 3] rfl
              have hDc := hD.sub (ws' := [(h0, .inr (3, [.ref of, .ref e1, .ref e2, .ref e3, .ref e4])), (e1, .inl (E.2.1 0, 512, .inl c1)), (e2, .inl (E.2.1 0, 512, .inl c2))]) [9, 2, 3] (by decide) rfl
              have hFc := va_free (wc := [(h0, .inr (3, [.ref of, .ref e1, .ref e2, .ref e3, .ref e4])), (e1, .inl (E.2.1 0, 512, .inl c1)), (e2, .inl (E.2.1 0, 512, .inl c2))]) hD hS hA [9, 2, 3] rfl
              refine va_callv (va_runV (As := [.int (nI ((cr * 128) + w_17)), .int x_14, .int x_31]) (rest := []) ⟨hx, hb, hml, hown, hts⟩ (c_X3_keep l E h0 of e1 e2 e3 e4 ((cr * 128) + w_17) x_14 x_31 c1 c2 H.size (by omega)) (cwV 3 hts gX3_extend_X3_keep rfl rfl rfl hdV_X3_keep ⟨Nat.le_of_ble_eq_true rfl, Nat.le_of_ble_eq_true rfl⟩) ⟨pcW_blind, va_recv hK hPc (ci := 3) (q0 := 0) rfl rfl, (pcW_pre hPc hkn hDc hst hS hFc)⟩ rfl rfl hl.1 rfl (lv_room (Nat.le_of_ble_eq_true rfl)) dX3_extend_142 ⟨Nat.le_of_ble_eq_true rfl, Nat.le_of_ble_eq_true rfl⟩) hS (fun q _ h => hFc q h) hFc (fun u t H1 locs ht hvm hw_33 hB hz1 hk1 hS => ?_)
              obtain ⟨u_34, u_35⟩ := u
              obtain ⟨hP1, hD1⟩ := hB
              rw [ht] at hP1
              try dsimp only at hw_33
              obtain ⟨hP, hD⟩ := va_join (wr := [(g2, .inl (E.2.1 0, 7, .inl d2)), (g3, .inl (E.2.1 0, 7, .inl d3)), (g4, .inl (E.2.1 0, 7, .inl d4)), (g5, .inl (E.2.1 0, 7, .inl d5)), (of, .inr (2, [.ref g1, .ref g2, .ref g3, .ref g4, .ref g5, .int (nI on), .ref g6, .ref g7, .ref g8])), (g1, .inl (E.2.1 0, 7, .inl d1)), (g8, .inl (E.2.1 0, 100, .inl d8)), (e3, .inl (E.2.1 0, 896, .inl u_24)), (e4, .inl (E.2.1 0, 896, .inl u_25))]) (w1 := [(h0, .inr (3, [.ref of, .ref e1, .ref e2, .ref e3, .ref e4])), (e1, .inl (E.2.1 0, 512, .inl u_34)), (e2, .inl (E.2.1 0, 512, .inl u_35))]) hP hD [9, 2, 3] [0, 1, 4, 5, 6, 7, 8, 10, 11] rfl rfl (by decide) (by decide) hk1 hFc hP1 hD1
              generalize H1 = H at hP hS ⊢
              have hP : va_P E.1 vwCl [(g2, .inl (E.2.1 0, 7, .inl d2)), (g3, .inl (E.2.1 0, 7, .inl d3)), (g4, .inl (E.2.1 0, 7, .inl d4)), (g5, .inl (E.2.1 0, 7, .inl d5)), (of, .inr (2, [.ref g1, .ref g2, .ref g3, .ref g4, .ref g5, .int (nI on), .ref g6, .ref g7, .ref g8])), (g1, .inl (E.2.1 0, 7, .inl d1)), (g8, .inl (E.2.1 0, 100, .inl d8)), (e3, .inl (E.2.1 0, 896, .inl u_24)), (e4, .inl (E.2.1 0, 896, .inl u_25)), (h0, .inr (3, [.ref of, .ref e1, .ref e2, .ref e3, .ref e4])), (e1, .inl (E.2.1 0, 512, .inl u_34)), (e2, .inl (E.2.1 0, 512, .inl u_35))] H := hP
              have hD : va_D A [(g2, .inl (E.2.1 0, 7, .inl d2)), (g3, .inl (E.2.1 0, 7, .inl d3)), (g4, .inl (E.2.1 0, 7, .inl d4)), (g5, .inl (E.2.1 0, 7, .inl d5)), (of, .inr (2, [.ref g1, .ref g2, .ref g3, .ref g4, .ref g5, .int (nI on), .ref g6, .ref g7, .ref g8])), (g1, .inl (E.2.1 0, 7, .inl d1)), (g8, .inl (E.2.1 0, 100, .inl d8)), (e3, .inl (E.2.1 0, 896, .inl u_24)), (e4, .inl (E.2.1 0, 896, .inl u_25)), (h0, .inr (3, [.ref of, .ref e1, .ref e2, .ref e3, .ref e4])), (e1, .inl (E.2.1 0, 512, .inl u_34)), (e2, .inl (E.2.1 0, 512, .inl u_35))] := hD
              refine lv_aload_n hx hb dX3_extend_145 rfl (lv_at hl 4 rfl) ?_
              refine lv_iload_n hx hb dX3_extend_146 rfl (lv_at hl 5 rfl) ?_
              refine lv_iload_n hx hb dX3_extend_147 rfl (lv_at hl 6 rfl) ?_
              refine lv_iconst (v := 1) hx hb dX3_extend_148 (by decide) ?_
              refine lv_iadd hx hb dX3_extend_149 ?_
              refine lv_topi (fun x_36 ex_36 => ?_)
              obtain rfl : x_36 = 3 := ex_36.trans (by decide +kernel)
              refine lv_iload hx hb dX3_extend_150 (lv_at hl 0 rfl) ?_
              refine lv_aload_n hx hb dX3_extend_152 rfl (lv_at hl 4 rfl) ?_
              refine va_get (D := E.1) (ci := 3) (v := .ref of) (C := RX3) (T := TX3) (N := 5) hx hb hts inX3 hown hK hP 9 rfl rfl 0 (by decide) fl24 (fun _ h9 => h9) rfl dX3_extend_153 ?_
              refine va_get (D := E.1) (ci := 2) (v := .ref g2) (C := RX2) (T := TX2) (N := 9) hx hb hts inX2 hown hK hP 4 rfl rfl 1 (by decide) fl70 (fun _ h9 => h9) rfl dX3_extend_156 ?_
              refine lv_iload hx hb dX3_extend_159 (lv_at hl 12 rfl) ?_
              refine va_iald hx hb hK hP 0 0 rfl rfl hi_9 dX3_extend_161 ?_
              refine lv_topi (fun x_37 ex_37 => ?_)
              refine lv_iload hx hb dX3_extend_162 (lv_at hl 2 rfl) ?_
              refine lv_iload hx hb dX3_extend_164 (lv_at hl 1 rfl) ?_
              refine lv_iload hx hb dX3_extend_166 (lv_at hl 11 rfl) ?_
              refine lv_bipush (v := 8) hx hb dX3_extend_168 (by decide) ?_
              refine lv_imul hx hb dX3_extend_170 ?_
              refine lv_topi (fun x_38 ex_38 => ?_)
              refine lv_iload hx hb dX3_extend_171 (lv_at hl 12 rfl) ?_
              refine lv_iadd hx hb dX3_extend_173 ?_
              refine lv_topi (fun x_39 ex_39 => ?_)
              refine lv_iconst (v := 1) hx hb dX3_extend_174 (by decide) ?_
              refine lv_iadd hx hb dX3_extend_175 ?_
              refine lv_topi (fun x_40 ex_40 => ?_)
              have hPc := hP.sub (ws' := [(h0, .inr (3, [.ref of, .ref e1, .ref e2, .ref e3, .ref e4])), (of, .inr (2, [.ref g1, .ref g2, .ref g3, .ref g4, .ref g5, .int (nI on), .ref g6, .ref g7, .ref g8])), (g1, .inl (E.2.1 0, 7, .inl d1)), (g2, .inl (E.2.1 0, 7, .inl d2)), (g3, .inl (E.2.1 0, 7, .inl d3)), (g4, .inl (E.2.1 0, 7, .inl d4)), (g5, .inl (E.2.1 0, 7, .inl d5)), (g8, .inl (E.2.1 0, 100, .inl d8)), (e1, .inl (E.2.1 0, 512, .inl u_34)), (e2, .inl (E.2.1 0, 512, .inl u_35)), (e3, .inl (E.2.1 0, 896, .inl u_24)), (e4, .inl (E.2.1 0, 896, .inl u_25))]) [9, 4, 5, 0, 1, 2, 3, 6, 10, 11, 7, 8] rfl
              have hDc := hD.sub (ws' := [(h0, .inr (3, [.ref of, .ref e1, .ref e2, .ref e3, .ref e4])), (of, .inr (2, [.ref g1, .ref g2, .ref g3, .ref g4, .ref g5, .int (nI on), .ref g6, .ref g7, .ref g8])), (g1, .inl (E.2.1 0, 7, .inl d1)), (g2, .inl (E.2.1 0, 7, .inl d2)), (g3, .inl (E.2.1 0, 7, .inl d3)), (g4, .inl (E.2.1 0, 7, .inl d4)), (g5, .inl (E.2.1 0, 7, .inl d5)), (g8, .inl (E.2.1 0, 100, .inl d8)), (e1, .inl (E.2.1 0, 512, .inl u_34)), (e2, .inl (E.2.1 0, 512, .inl u_35)), (e3, .inl (E.2.1 0, 896, .inl u_24)), (e4, .inl (E.2.1 0, 896, .inl u_25))]) [9, 4, 5, 0, 1, 2, 3, 6, 10, 11, 7, 8] (by decide) rfl
              have hFc := va_free (wc := [(h0, .inr (3, [.ref of, .ref e1, .ref e2, .ref e3, .ref e4])), (of, .inr (2, [.ref g1, .ref g2, .ref g3, .ref g4, .ref g5, .int (nI on), .ref g6, .ref g7, .ref g8])), (g1, .inl (E.2.1 0, 7, .inl d1)), (g2, .inl (E.2.1 0, 7, .inl d2)), (g3, .inl (E.2.1 0, 7, .inl d3)), (g4, .inl (E.2.1 0, 7, .inl d4)), (g5, .inl (E.2.1 0, 7, .inl d5)), (g8, .inl (E.2.1 0, 100, .inl d8)), (e1, .inl (E.2.1 0, 512, .inl u_34)), (e2, .inl (E.2.1 0, 512, .inl u_35)), (e3, .inl (E.2.1 0, 896, .inl u_24)), (e4, .inl (E.2.1 0, 896, .inl u_25))]) hD hS hA [9, 4, 5, 0, 1, 2, 3, 6, 10, 11, 7, 8] rfl
              refine va_callv (va_runV (As := [.int (nI cr), .int 3, .int (nI w_17), .int x_37, .int x_11, .int x_14, .int x_40]) (rest := []) ⟨hx, hb, hml, hown, hts⟩ (c_X3_extend3 l E h0 of e1 e2 e3 e4 g1 g2 g3 g4 g5 g6 g7 g8 on d1 d2 d3 d4 d5 d8 cr w_17 x_37 x_11 x_14 x_40 u_34 u_35 u_24 u_25 H.size hcr hwd_18 hd1) (cwV 7 hts gX3_extend_X3_extend rfl rfl rfl hdV_X3_extend ⟨Nat.le_of_ble_eq_true rfl, Nat.le_of_ble_eq_true rfl⟩) ⟨pcW_blind, va_recv hK hPc (ci := 3) (q0 := 0) rfl rfl, (pcW_pre hPc hkn hDc hst hS hFc)⟩ rfl rfl hl.1 rfl (lv_room (Nat.le_of_ble_eq_true rfl)) dX3_extend_176 ⟨Nat.le_of_ble_eq_true rfl, Nat.le_of_ble_eq_true rfl⟩) hS (fun q _ h => hFc q h) hFc (fun u t H1 locs ht hvm hw_42 hB hz1 hk1 hS => ?_)
              obtain ⟨u_43, u_44, u_45, u_46⟩ := u
              obtain ⟨hP1, hD1⟩ := hB
              rw [ht] at hP1
              try dsimp only at hw_42
              obtain ⟨hP, hD⟩ := va_join (wr := []) (w1 := [(h0, .inr (3, [.ref of, .ref e1, .ref e2, .ref e3, .ref e4])), (of, .inr (2, [.ref g1, .ref g2, .ref g3, .ref g4, .ref g5, .int (nI on), .ref g6, .ref g7, .ref g8])), (g1, .inl (E.2.1 0, 7, .inl d1)), (g2, .inl (E.2.1 0, 7, .inl d2)), (g3, .inl (E.2.1 0, 7, .inl d3)), (g4, .inl (E.2.1 0, 7, .inl d4)), (g5, .inl (E.2.1 0, 7, .inl d5)), (g8, .inl (E.2.1 0, 100, .inl d8)), (e1, .inl (E.2.1 0, 512, .inl u_43)), (e2, .inl (E.2.1 0, 512, .inl u_44)), (e3, .inl (E.2.1 0, 896, .inl u_45)), (e4, .inl (E.2.1 0, 896, .inl u_46))]) hP hD [9, 4, 5, 0, 1, 2, 3, 6, 10, 11, 7, 8] [] rfl rfl (by decide) (by decide) hk1 hFc hP1 hD1
              generalize H1 = H at hP hS ⊢
              have hP : va_P E.1 vwCl [(h0, .inr (3, [.ref of, .ref e1, .ref e2, .ref e3, .ref e4])), (of, .inr (2, [.ref g1, .ref g2, .ref g3, .ref g4, .ref g5, .int (nI on), .ref g6, .ref g7, .ref g8])), (g1, .inl (E.2.1 0, 7, .inl d1)), (g2, .inl (E.2.1 0, 7, .inl d2)), (g3, .inl (E.2.1 0, 7, .inl d3)), (g4, .inl (E.2.1 0, 7, .inl d4)), (g5, .inl (E.2.1 0, 7, .inl d5)), (g8, .inl (E.2.1 0, 100, .inl d8)), (e1, .inl (E.2.1 0, 512, .inl u_43)), (e2, .inl (E.2.1 0, 512, .inl u_44)), (e3, .inl (E.2.1 0, 896, .inl u_45)), (e4, .inl (E.2.1 0, 896, .inl u_46))] H := hP
              have hD : va_D A [(h0, .inr (3, [.ref of, .ref e1, .ref e2, .ref e3, .ref e4])), (of, .inr (2, [.ref g1, .ref g2, .ref g3, .ref g4, .ref g5, .int (nI on), .ref g6, .ref g7, .ref g8])), (g1, .inl (E.2.1 0, 7, .inl d1)), (g2, .inl (E.2.1 0, 7, .inl d2)), (g3, .inl (E.2.1 0, 7, .inl d3)), (g4, .inl (E.2.1 0, 7, .inl d4)), (g5, .inl (E.2.1 0, 7, .inl d5)), (g8, .inl (E.2.1 0, 100, .inl d8)), (e1, .inl (E.2.1 0, 512, .inl u_43)), (e2, .inl (E.2.1 0, 512, .inl u_44)), (e3, .inl (E.2.1 0, 896, .inl u_45)), (e4, .inl (E.2.1 0, 896, .inl u_46))] := hD
              refine lv_iinc (v := (nI (k + 1))) (lv' := [(8, .int (nI (k + 1))), (12, .int (nI w_17)), (11, .int x_14), (10, .int x_11), (9, .int r_6), (0, .ref h0), (1, .int (nI cr)), (2, .int 2), (3, .int (nI se_)), (4, .int po_), (5, .int da), (6, .int co_), (7, .int or_)]) hx hb dX3_extend_179 hl (k := 12) rfl (show nI k + 1 = nI (k + 1) from nI_1 k) (by decide) rfl (fun ls hl => ?_)
              refine lv_goto (tgt := 10) hx hb dX3_extend_182 (by decide) ?_
              exact ih (k + 1) u_43 u_44 u_45 u_46 _ _ _ (by omega) (by omega) (hP.sub [0, 1, 2, 3, 4, 5, 6, 7, 8, 9, 10, 11] rfl) (hD.sub [0, 1, 2, 3, 4, 5, 6, 7, 8, 9, 10, 11] (by decide) rfl) hS (lv_sub hl [5, 6, 7, 8, 9, 10, 11, 12, 0] rfl)
        · refine lv_iconst (v := (-1)) hx hb dX3_extend_38 (by decide) ?_
          refine lv_goto (tgt := 55) hx hb dX3_extend_39 (by decide) ?_
          refine lv_istore (lv' := [(9, .int (-1)), (0, .ref h0), (1, .int (nI cr)), (2, .int 2), (3, .int (nI se_)), (4, .int po_), (5, .int da), (6, .int co_), (7, .int or_), (8, .int (nI k))]) hx hb dX3_extend_55 hl (by decide) rfl (fun ls hl => ?_)
          refine lv_iload hx hb dX3_extend_57 (lv_at hl 0 rfl) ?_
          refine lv_iconst (v := (-1)) hx hb dX3_extend_59 (by decide) ?_
          refine lv_icmp_eq (tgt := 179) hx hb dX3_extend_60 (by decide) (fun _ => ?_) (fun c9 => absurd c9 (by decide))
          refine lv_iinc (v := (nI (k + 1))) (lv' := [(8, .int (nI (k + 1))), (9, .int (-1)), (0, .ref h0), (1, .int (nI cr)), (2, .int 2), (3, .int (nI se_)), (4, .int po_), (5, .int da), (6, .int co_), (7, .int or_)]) hx hb dX3_extend_179 hl (k := 9) rfl (show nI k + 1 = nI (k + 1) from nI_1 k) (by decide) rfl (fun ls hl => ?_)
          refine lv_goto (tgt := 10) hx hb dX3_extend_182 (by decide) ?_
          exact ih (k + 1) c1 c2 c3 c4 _ _ _ (by omega) (by omega) (hP.sub [0, 1, 2, 3, 4, 5, 6, 7, 8, 9, 10, 11] rfl) (hD.sub [0, 1, 2, 3, 4, 5, 6, 7, 8, 9, 10, 11] (by decide) rfl) hS (lv_sub hl [2, 3, 4, 5, 6, 7, 8, 9, 0] rfl)
set_option maxHeartbeats 4000000 in
set_option maxRecDepth 100000 in
theorem c_X3_extend2 (l : Launch) (E : vE) (h0 : Nat) (of : Nat) (e1 : Nat) (e2 : Nat) (e3 : Nat) (e4 : Nat) (g1 : Nat) (g2 : Nat) (g3 : Nat) (g4 : Nat) (g5 : Nat) (g6 : Nat) (g7 : Nat) (g8 : Nat) (on : Nat) (d1 : Nat → Int32) (d2 : Nat → Int32) (d3 : Nat → Int32) (d4 : Nat → Int32) (d5 : Nat → Int32) (d8 : Nat → Int32) (cr : Nat) (se_ : Nat) (po_ : Int32) (da : Int32) (co_ : Int32) (or_ : Int32) (c1 : Nat → Int32) (c2 : Nat → Int32) (c3 : Nat → Int32) (c4 : Nat → Int32) (sz : Nat) (hcr : cr < 4) (hse : se_ < 128) (hd1 : ∀ k, k < 7 → inR (d1 k) 0 9 = true) : Met l yX3_extend wsX3_extend ({ frames := 8, cells := 0, slots := 0, locals := 228 }) (pcW E [.ref h0, .int (nI cr), .int 2, .int (nI se_), .int po_, .int da, .int co_, .int or_] sz [(h0, .inr (3, [.ref of, .ref e1, .ref e2, .ref e3, .ref e4])), (of, .inr (2, [.ref g1, .ref g2, .ref g3, .ref g4, .ref g5, .int (nI on), .ref g6, .ref g7, .ref g8])), (g1, .inl (E.2.1 0, 7, .inl d1)), (g2, .inl (E.2.1 0, 7, .inl d2)), (g3, .inl (E.2.1 0, 7, .inl d3)), (g4, .inl (E.2.1 0, 7, .inl d4)), (g5, .inl (E.2.1 0, 7, .inl d5)), (g8, .inl (E.2.1 0, 100, .inl d8)), (e1, .inl (E.2.1 0, 512, .inl c1)), (e2, .inl (E.2.1 0, 512, .inl c2)), (e3, .inl (E.2.1 0, 896, .inl c3)), (e4, .inl (E.2.1 0, 896, .inl c4))]) (va_Qv (fun (u : (Nat → Int32) × (Nat → Int32) × (Nat → Int32) × (Nat → Int32)) => match u with | (c12, c22, c32, c42) => True) (fun (u : (Nat → Int32) × (Nat → Int32) × (Nat → Int32) × (Nat → Int32)) (t : State) => match u with | (c12, c22, c32, c42) => wB E (va_A [(h0, .inr (3, [.ref of, .ref e1, .ref e2, .ref e3, .ref e4])), (of, .inr (2, [.ref g1, .ref g2, .ref g3, .ref g4, .ref g5, .int (nI on), .ref g6, .ref g7, .ref g8])), (g1, .inl (E.2.1 0, 7, .inl d1)), (g2, .inl (E.2.1 0, 7, .inl d2)), (g3, .inl (E.2.1 0, 7, .inl d3)), (g4, .inl (E.2.1 0, 7, .inl d4)), (g5, .inl (E.2.1 0, 7, .inl d5)), (g8, .inl (E.2.1 0, 100, .inl d8)), (e1, .inl (E.2.1 0, 512, .inl c1)), (e2, .inl (E.2.1 0, 512, .inl c2)), (e3, .inl (E.2.1 0, 896, .inl c3)), (e4, .inl (E.2.1 0, 896, .inl c4))] sz) [(h0, .inr (3, [.ref of, .ref e1, .ref e2, .ref e3, .ref e4])), (of, .inr (2, [.ref g1, .ref g2, .ref g3, .ref g4, .ref g5, .int (nI on), .ref g6, .ref g7, .ref g8])), (g1, .inl (E.2.1 0, 7, .inl d1)), (g2, .inl (E.2.1 0, 7, .inl d2)), (g3, .inl (E.2.1 0, 7, .inl d3)), (g4, .inl (E.2.1 0, 7, .inl d4)), (g5, .inl (E.2.1 0, 7, .inl d5)), (g8, .inl (E.2.1 0, 100, .inl d8)), (e1, .inl (E.2.1 0, 512, .inl c12)), (e2, .inl (E.2.1 0, 512, .inl c22)), (e3, .inl (E.2.1 0, 896, .inl c32)), (e4, .inl (E.2.1 0, 896, .inl c42))] t) (va_A [(h0, .inr (3, [.ref of, .ref e1, .ref e2, .ref e3, .ref e4])), (of, .inr (2, [.ref g1, .ref g2, .ref g3, .ref g4, .ref g5, .int (nI on), .ref g6, .ref g7, .ref g8])), (g1, .inl (E.2.1 0, 7, .inl d1)), (g2, .inl (E.2.1 0, 7, .inl d2)), (g3, .inl (E.2.1 0, 7, .inl d3)), (g4, .inl (E.2.1 0, 7, .inl d4)), (g5, .inl (E.2.1 0, 7, .inl d5)), (g8, .inl (E.2.1 0, 100, .inl d8)), (e1, .inl (E.2.1 0, 512, .inl c1)), (e2, .inl (E.2.1 0, 512, .inl c2)), (e3, .inl (E.2.1 0, 896, .inl c3)), (e4, .inl (E.2.1 0, 896, .inl c4))] sz)) 0 0 (va_A [(h0, .inr (3, [.ref of, .ref e1, .ref e2, .ref e3, .ref e4])), (of, .inr (2, [.ref g1, .ref g2, .ref g3, .ref g4, .ref g5, .int (nI on), .ref g6, .ref g7, .ref g8])), (g1, .inl (E.2.1 0, 7, .inl d1)), (g2, .inl (E.2.1 0, 7, .inl d2)), (g3, .inl (E.2.1 0, 7, .inl d3)), (g4, .inl (E.2.1 0, 7, .inl d4)), (g5, .inl (E.2.1 0, 7, .inl d5)), (g8, .inl (E.2.1 0, 100, .inl d8)), (e1, .inl (E.2.1 0, 512, .inl c1)), (e2, .inl (E.2.1 0, 512, .inl c2)), (e3, .inl (E.2.1 0, 896, .inl c3)), (e4, .inl (E.2.1 0, 896, .inl c4))] sz) := by
  refine Met.ofW (cc := cX3_extend) (maxL := 13) (ret := none) (by decide) rfl ?_
  intro p e s m args below meth c s₁ B hml hv
  obtain ⟨rfl, hsz, hP, hkn, hD0, hst⟩ := hv
  have hx := B.exec
  have hb := B.bytes
  have hr := B.returns
  have hts := atoms_spec (ws := wsX3_extend) B.pre
  have hown : s.vm.findClass RX3 = some m.cls := findClass_of_methodNamed B.named
  have hlocks := B.notSynchronized
  subst hsz
  have hD := hD0.self (sz := s.heap.size)
  have hK := hkn.1
  have hAO := hkn.2.2.1
  generalize hAe : va_A [(h0, .inr (3, [.ref of, .ref e1, .ref e2, .ref e3, .ref e4])), (of, .inr (2, [.ref g1, .ref g2, .ref g3, .ref g4, .ref g5, .int (nI on), .ref g6, .ref g7, .ref g8])), (g1, .inl (E.2.1 0, 7, .inl d1)), (g2, .inl (E.2.1 0, 7, .inl d2)), (g3, .inl (E.2.1 0, 7, .inl d3)), (g4, .inl (E.2.1 0, 7, .inl d4)), (g5, .inl (E.2.1 0, 7, .inl d5)), (g8, .inl (E.2.1 0, 100, .inl d8)), (e1, .inl (E.2.1 0, 512, .inl c1)), (e2, .inl (E.2.1 0, 512, .inl c2)), (e3, .inl (E.2.1 0, 896, .inl c3)), (e4, .inl (E.2.1 0, 896, .inl c4))] s.heap.size = A at hD hst ⊢
  have hA : ∀ q : Nat, s.heap.size ≤ q → A q := fun q h => by rw [← hAe]; exact Or.inr h
  have hS : va_S A s.heap s.heap [] := va_S.rf
  have hP : va_P E.1 vwCl [(h0, .inr (3, [.ref of, .ref e1, .ref e2, .ref e3, .ref e4])), (of, .inr (2, [.ref g1, .ref g2, .ref g3, .ref g4, .ref g5, .int (nI on), .ref g6, .ref g7, .ref g8])), (g1, .inl (E.2.1 0, 7, .inl d1)), (g2, .inl (E.2.1 0, 7, .inl d2)), (g3, .inl (E.2.1 0, 7, .inl d3)), (g4, .inl (E.2.1 0, 7, .inl d4)), (g5, .inl (E.2.1 0, 7, .inl d5)), (g8, .inl (E.2.1 0, 100, .inl d8)), (e1, .inl (E.2.1 0, 512, .inl c1)), (e2, .inl (E.2.1 0, 512, .inl c2)), (e3, .inl (E.2.1 0, 896, .inl c3)), (e4, .inl (E.2.1 0, 896, .inl c4))] s.heap := hP
  have hl := lv_entry ([.ref h0, .int (nI cr), .int 2, .int (nI se_), .int po_, .int da, .int co_, .int or_]) (n := 13) (Nat.le_of_ble_eq_true rfl)
  rw [lg_entry_eq]
  generalize (lg_sl ([.ref h0, .int (nI cr), .int 2, .int (nI se_), .int po_, .int da, .int co_, .int or_]) ++ List.replicate (13 - (lg_sl ([.ref h0, .int (nI cr), .int 2, .int (nI se_), .int po_, .int da, .int co_, .int or_])).length) Slot.unset).toArray = ls at hl ⊢
  have hl : lv_has ls 13 [(0, .ref h0), (1, .int (nI cr)), (2, .int 2), (3, .int (nI se_)), (4, .int po_), (5, .int da), (6, .int co_), (7, .int or_)] := hl
  have fl24 := hts (.fieldLink RX3 24 "BoatsHome$Orders" "offers" "LBoatsHome$Offers;") (by first | exact List.mem_of_getElem? (i := 1) rfl | decide +kernel)
  have fl47 := hts (.fieldLink RX3 47 "BoatsHome$Offers" "size" "I") (by first | exact List.mem_of_getElem? (i := 2) rfl | decide +kernel)
  have fl55 := hts (.fieldLink RX3 55 "BoatsHome$Offers" "days" "[I") (by first | exact List.mem_of_getElem? (i := 3) rfl | decide +kernel)
  have fl70 := hts (.fieldLink RX3 70 "BoatsHome$Offers" "to" "[I") (by first | exact List.mem_of_getElem? (i := 4) rfl | decide +kernel)
  have inX2 : ∀ w ∈ u_ws RX2 TX2 9, w ∈ wsX3_extend := by first | exact fun w h9 => (List.mem_cons_of_mem _ (List.mem_append_right _ h9)) | decide +kernel
  have inX3 : ∀ w ∈ u_ws RX3 TX3 5, w ∈ wsX3_extend := by first | exact fun w h9 => (List.mem_cons_of_mem _ (List.mem_append_left _ (List.mem_append_right _ h9))) | decide +kernel
  refine lv_iload_n hx hb dX3_extend_0 rfl (lv_at hl 2 rfl) ?_
  refine lv_bipush (v := 7) hx hb dX3_extend_1 (by decide) ?_
  refine lv_icmp_lt (tgt := 7) hx hb dX3_extend_3 (by decide) (fun _ => ?_) (fun c9 => absurd c9 (by decide))
  refine lv_iconst (v := 0) hx hb dX3_extend_7 (by decide) ?_
  refine lv_istore (lv' := [(8, .int 0), (0, .ref h0), (1, .int (nI cr)), (2, .int 2), (3, .int (nI se_)), (4, .int po_), (5, .int da), (6, .int co_), (7, .int or_)]) hx hb dX3_extend_8 hl (by decide) rfl (fun ls hl => ?_)
  have hPl := hP.sub (ws' := [(h0, .inr (3, [.ref of, .ref e1, .ref e2, .ref e3, .ref e4])), (of, .inr (2, [.ref g1, .ref g2, .ref g3, .ref g4, .ref g5, .int (nI on), .ref g6, .ref g7, .ref g8])), (g1, .inl (E.2.1 0, 7, .inl d1)), (g2, .inl (E.2.1 0, 7, .inl d2)), (g3, .inl (E.2.1 0, 7, .inl d3)), (g4, .inl (E.2.1 0, 7, .inl d4)), (g5, .inl (E.2.1 0, 7, .inl d5)), (g8, .inl (E.2.1 0, 100, .inl d8)), (e1, .inl (E.2.1 0, 512, .inl c1)), (e2, .inl (E.2.1 0, 512, .inl c2)), (e3, .inl (E.2.1 0, 896, .inl c3)), (e4, .inl (E.2.1 0, 896, .inl c4))]) [0, 1, 2, 3, 4, 5, 6, 7, 8, 9, 10, 11] rfl
  have hDl := hD.sub (ws' := [(h0, .inr (3, [.ref of, .ref e1, .ref e2, .ref e3, .ref e4])), (of, .inr (2, [.ref g1, .ref g2, .ref g3, .ref g4, .ref g5, .int (nI on), .ref g6, .ref g7, .ref g8])), (g1, .inl (E.2.1 0, 7, .inl d1)), (g2, .inl (E.2.1 0, 7, .inl d2)), (g3, .inl (E.2.1 0, 7, .inl d3)), (g4, .inl (E.2.1 0, 7, .inl d4)), (g5, .inl (E.2.1 0, 7, .inl d5)), (g8, .inl (E.2.1 0, 100, .inl d8)), (e1, .inl (E.2.1 0, 512, .inl c1)), (e2, .inl (E.2.1 0, 512, .inl c2)), (e3, .inl (E.2.1 0, 896, .inl c3)), (e4, .inl (E.2.1 0, 896, .inl c4))]) [0, 1, 2, 3, 4, 5, 6, 7, 8, 9, 10, 11] (by decide) rfl
  refine lg_extend2 E h0 of e1 e2 e3 e4 g1 g2 g3 g4 g5 g6 g7 g8 on d1 d2 d3 d4 d5 d8 cr se_ po_ da co_ or_ hx hb hml hown hts hkn hst hA hcr hse hd1 (fun n_1 n_2 n_3 n_4 H locs ls  hP hD hS hl => ?_) 8 0 c1 c2 c3 c4 _ _ _ (by omega) (by omega) hPl hDl hS (lv_sub hl [1, 2, 3, 4, 5, 6, 7, 8, 0] rfl)
  have hP : va_P E.1 vwCl [(h0, .inr (3, [.ref of, .ref e1, .ref e2, .ref e3, .ref e4])), (of, .inr (2, [.ref g1, .ref g2, .ref g3, .ref g4, .ref g5, .int (nI on), .ref g6, .ref g7, .ref g8])), (g1, .inl (E.2.1 0, 7, .inl d1)), (g2, .inl (E.2.1 0, 7, .inl d2)), (g3, .inl (E.2.1 0, 7, .inl d3)), (g4, .inl (E.2.1 0, 7, .inl d4)), (g5, .inl (E.2.1 0, 7, .inl d5)), (g8, .inl (E.2.1 0, 100, .inl d8)), (e1, .inl (E.2.1 0, 512, .inl n_1)), (e2, .inl (E.2.1 0, 512, .inl n_2)), (e3, .inl (E.2.1 0, 896, .inl n_3)), (e4, .inl (E.2.1 0, 896, .inl n_4))] H := hP
  have hD : va_D A [(h0, .inr (3, [.ref of, .ref e1, .ref e2, .ref e3, .ref e4])), (of, .inr (2, [.ref g1, .ref g2, .ref g3, .ref g4, .ref g5, .int (nI on), .ref g6, .ref g7, .ref g8])), (g1, .inl (E.2.1 0, 7, .inl d1)), (g2, .inl (E.2.1 0, 7, .inl d2)), (g3, .inl (E.2.1 0, 7, .inl d3)), (g4, .inl (E.2.1 0, 7, .inl d4)), (g5, .inl (E.2.1 0, 7, .inl d5)), (g8, .inl (E.2.1 0, 100, .inl d8)), (e1, .inl (E.2.1 0, 512, .inl n_1)), (e2, .inl (E.2.1 0, 512, .inl n_2)), (e3, .inl (E.2.1 0, 896, .inl n_3)), (e4, .inl (E.2.1 0, 896, .inl n_4))] := hD
  have hP9 := hP.sub (ws' := [(h0, .inr (3, [.ref of, .ref e1, .ref e2, .ref e3, .ref e4])), (of, .inr (2, [.ref g1, .ref g2, .ref g3, .ref g4, .ref g5, .int (nI on), .ref g6, .ref g7, .ref g8])), (g1, .inl (E.2.1 0, 7, .inl d1)), (g2, .inl (E.2.1 0, 7, .inl d2)), (g3, .inl (E.2.1 0, 7, .inl d3)), (g4, .inl (E.2.1 0, 7, .inl d4)), (g5, .inl (E.2.1 0, 7, .inl d5)), (g8, .inl (E.2.1 0, 100, .inl d8)), (e1, .inl (E.2.1 0, 512, .inl n_1)), (e2, .inl (E.2.1 0, 512, .inl n_2)), (e3, .inl (E.2.1 0, 896, .inl n_3)), (e4, .inl (E.2.1 0, 896, .inl n_4))]) [0, 1, 2, 3, 4, 5, 6, 7, 8, 9, 10, 11] rfl
  have hD9 := hD.sub (ws' := [(h0, .inr (3, [.ref of, .ref e1, .ref e2, .ref e3, .ref e4])), (of, .inr (2, [.ref g1, .ref g2, .ref g3, .ref g4, .ref g5, .int (nI on), .ref g6, .ref g7, .ref g8])), (g1, .inl (E.2.1 0, 7, .inl d1)), (g2, .inl (E.2.1 0, 7, .inl d2)), (g3, .inl (E.2.1 0, 7, .inl d3)), (g4, .inl (E.2.1 0, 7, .inl d4)), (g5, .inl (E.2.1 0, 7, .inl d5)), (g8, .inl (E.2.1 0, 100, .inl d8)), (e1, .inl (E.2.1 0, 512, .inl n_1)), (e2, .inl (E.2.1 0, 512, .inl n_2)), (e3, .inl (E.2.1 0, 896, .inl n_3)), (e4, .inl (E.2.1 0, 896, .inl n_4))]) [0, 1, 2, 3, 4, 5, 6, 7, 8, 9, 10, 11] (by decide) rfl
  exact W.vret hx hb hr (fun t ht hW => ⟨⟨(n_1, n_2, n_3, n_4), rfl, trivial, by rw [ht]; exact hP9, hD9⟩, hS.F ht⟩) hS.2.2 dX3_extend_185
set_option maxHeartbeats 4000000 in
set_option maxRecDepth 100000 in
theorem lg_extend1 {p : Program} {l : Launch} {e : Env} {s : State} {m : MethodId} {args : Array Value} {below : List Frame} {meth : Method} {c : Code} {Q : State → Prop} {A : Nat → Prop} (E : vE) (h0 : Nat) (of : Nat) (e1 : Nat) (e2 : Nat) (e3 : Nat) (e4 : Nat) (g1 : Nat) (g2 : Nat) (g3 : Nat) (g4 : Nat) (g5 : Nat) (g6 : Nat) (g7 : Nat) (g8 : Nat) (on : Nat) (d1 : Nat → Int32) (d2 : Nat → Int32) (d3 : Nat → Int32) (d4 : Nat → Int32) (d5 : Nat → Int32) (d8 : Nat → Int32) (cr : Nat) (se_ : Nat) (po_ : Int32) (da : Int32) (co_ : Int32) (or_ : Int32) (hx : p.tables.exec = Jvm.exec) (hb : c.code = cX3_extend) (hml : c.maxLocals = 13) (hown : s.vm.findClass RX3 = some m.cls) (hts : ∀ w ∈ wsX3_extend, w.before args s = true) (hkn : kn E s) (hst : st E A s s.heap) (hA : ∀ q : Nat, s.heap.size ≤ q → A q) (hcr : cr < 4) (hse : se_ < 128) (hd1 : ∀ k, k < 7 → inR (d1 k) 0 9 = true) (kk : ∀ (c1 : Nat → Int32) (c2 : Nat → Int32) (c3 : Nat → Int32) (c4 : Nat → Int32) (H : Heap) (locs : List Loc) (ls : Array Slot), va_P E.1 vwCl [(h0, .inr (3, [.ref of, .ref e1, .ref e2, .ref e3, .ref e4])), (of, .inr (2, [.ref g1, .ref g2, .ref g3, .ref g4, .ref g5, .int (nI on), .ref g6, .ref g7, .ref g8])), (g1, .inl (E.2.1 0, 7, .inl d1)), (g2, .inl (E.2.1 0, 7, .inl d2)), (g3, .inl (E.2.1 0, 7, .inl d3)), (g4, .inl (E.2.1 0, 7, .inl d4)), (g5, .inl (E.2.1 0, 7, .inl d5)), (g8, .inl (E.2.1 0, 100, .inl d8)), (e1, .inl (E.2.1 0, 512, .inl c1)), (e2, .inl (E.2.1 0, 512, .inl c2)), (e3, .inl (E.2.1 0, 896, .inl c3)), (e4, .inl (E.2.1 0, 896, .inl c4))] H → va_D A [(h0, .inr (3, [.ref of, .ref e1, .ref e2, .ref e3, .ref e4])), (of, .inr (2, [.ref g1, .ref g2, .ref g3, .ref g4, .ref g5, .int (nI on), .ref g6, .ref g7, .ref g8])), (g1, .inl (E.2.1 0, 7, .inl d1)), (g2, .inl (E.2.1 0, 7, .inl d2)), (g3, .inl (E.2.1 0, 7, .inl d3)), (g4, .inl (E.2.1 0, 7, .inl d4)), (g5, .inl (E.2.1 0, 7, .inl d5)), (g8, .inl (E.2.1 0, 100, .inl d8)), (e1, .inl (E.2.1 0, 512, .inl c1)), (e2, .inl (E.2.1 0, 512, .inl c2)), (e3, .inl (E.2.1 0, 896, .inl c3)), (e4, .inl (E.2.1 0, 896, .inl c4))] → va_S A s.heap H locs → lv_has ls 13 [(0, .ref h0)] → W p l e ({ frames := 9, cells := 0, slots := 0, locals := 260 }) s m args below meth c H locs 0 0 Q (F0 m 185 ls [])) : ∀ (n0 : Nat) (k : Nat) (c1 : Nat → Int32) (c2 : Nat → Int32) (c3 : Nat → Int32) (c4 : Nat → Int32) (H : Heap) (locs : List Loc) (ls : Array Slot), 7 - k < n0 → (k ≤ 7) → va_P E.1 vwCl [(h0, .inr (3, [.ref of, .ref e1, .ref e2, .ref e3, .ref e4])), (of, .inr (2, [.ref g1, .ref g2, .ref g3, .ref g4, .ref g5, .int (nI on), .ref g6, .ref g7, .ref g8])), (g1, .inl (E.2.1 0, 7, .inl d1)), (g2, .inl (E.2.1 0, 7, .inl d2)), (g3, .inl (E.2.1 0, 7, .inl d3)), (g4, .inl (E.2.1 0, 7, .inl d4)), (g5, .inl (E.2.1 0, 7, .inl d5)), (g8, .inl (E.2.1 0, 100, .inl d8)), (e1, .inl (E.2.1 0, 512, .inl c1)), (e2, .inl (E.2.1 0, 512, .inl c2)), (e3, .inl (E.2.1 0, 896, .inl c3)), (e4, .inl (E.2.1 0, 896, .inl c4))] H → va_D A [(h0, .inr (3, [.ref of, .ref e1, .ref e2, .ref e3, .ref e4])), (of, .inr (2, [.ref g1, .ref g2, .ref g3, .ref g4, .ref g5, .int (nI on), .ref g6, .ref g7, .ref g8])), (g1, .inl (E.2.1 0, 7, .inl d1)), (g2, .inl (E.2.1 0, 7, .inl d2)), (g3, .inl (E.2.1 0, 7, .inl d3)), (g4, .inl (E.2.1 0, 7, .inl d4)), (g5, .inl (E.2.1 0, 7, .inl d5)), (g8, .inl (E.2.1 0, 100, .inl d8)), (e1, .inl (E.2.1 0, 512, .inl c1)), (e2, .inl (E.2.1 0, 512, .inl c2)), (e3, .inl (E.2.1 0, 896, .inl c3)), (e4, .inl (E.2.1 0, 896, .inl c4))] → va_S A s.heap H locs → lv_has ls 13 [(0, .ref h0), (1, .int (nI cr)), (2, .int 1), (3, .int (nI se_)), (4, .int po_), (5, .int da), (6, .int co_), (7, .int or_), (8, .int (nI k))] → W p l e ({ frames := 9, cells := 0, slots := 0, locals := 260 }) s m args below meth c H locs 0 0 Q (F0 m 10 ls []) := by
  have hK := hkn.1
  have hAO := hkn.2.2.1
  have fl24 := hts (.fieldLink RX3 24 "BoatsHome$Orders" "offers" "LBoatsHome$Offers;") (by first | exact List.mem_of_getElem? (i := 1) rfl | decide +kernel)
  have fl47 := hts (.fieldLink RX3 47 "BoatsHome$Offers" "size" "I") (by first | exact List.mem_of_getElem? (i := 2) rfl | decide +kernel)
  have fl55 := hts (.fieldLink RX3 55 "BoatsHome$Offers" "days" "[I") (by first | exact List.mem_of_getElem? (i := 3) rfl | decide +kernel)
  have fl70 := hts (.fieldLink RX3 70 "BoatsHome$Offers" "to" "[I") (by first | exact List.mem_of_getElem? (i := 4) rfl | decide +kernel)
  have inX2 : ∀ w ∈ u_ws RX2 TX2 9, w ∈ wsX3_extend := by first | exact fun w h9 => (List.mem_cons_of_mem _ (List.mem_append_right _ h9)) | decide +kernel
  have inX3 : ∀ w ∈ u_ws RX3 TX3 5, w ∈ wsX3_extend := by first | exact fun w h9 => (List.mem_cons_of_mem _ (List.mem_append_left _ (List.mem_append_right _ h9))) | decide +kernel
  intro n0
  induction n0 with
  | zero =>
    intro k c1 c2 c3 c4 H locs ls hn0
    exact absurd hn0 (Nat.not_lt_zero _)
  | succ n0 ih =>
    intro k c1 c2 c3 c4 H locs ls hn0 hk hP hD hS hl
    refine lv_iload hx hb dX3_extend_10 (lv_at hl 8 rfl) ?_
    refine lv_aload_n hx hb dX3_extend_12 rfl (lv_at hl 0 rfl) ?_
    refine va_get (D := E.1) (ci := 3) (v := .ref of) (C := RX3) (T := TX3) (N := 5) hx hb hts inX3 hown hK hP 0 rfl rfl 0 (by decide) fl24 (fun _ h9 => h9) rfl dX3_extend_13 ?_
    refine va_get (D := E.1) (ci := 2) (v := .int (nI on)) (C := RX2) (T := TX2) (N := 9) hx hb hts inX2 hown hK hP 1 rfl rfl 5 (by decide) fl47 (fun _ h9 => h9) rfl dX3_extend_16 ?_
    refine lv_icmp_ge (tgt := 185) hx hb dX3_extend_19 (by decide) (fun c_1 => ?_) (fun c_1 => ?_)
    · exact kk c1 c2 c3 c4 _ _ _  (hP.sub [0, 1, 2, 3, 4, 5, 6, 7, 8, 9, 10, 11] rfl) (hD.sub [0, 1, 2, 3, 4, 5, 6, 7, 8, 9, 10, 11] (by decide) rfl) hS (lv_sub hl [0] rfl)
    · refine lv_iload hx hb dX3_extend_22 (lv_at hl 8 rfl) ?_
      refine lv_bipush (v := 7) hx hb dX3_extend_24 (by decide) ?_
      refine lv_icmp_ge (tgt := 185) hx hb dX3_extend_26 (by decide) (fun c_2 => ?_) (fun c_2 => ?_)
      · exact kk c1 c2 c3 c4 _ _ _  (hP.sub [0, 1, 2, 3, 4, 5, 6, 7, 8, 9, 10, 11] rfl) (hD.sub [0, 1, 2, 3, 4, 5, 6, 7, 8, 9, 10, 11] (by decide) rfl) hS (lv_sub hl [0] rfl)
      · have hlt : k < 7 := by
          rcases Nat.lt_or_ge k 7 with q | q
          · exact q
          · exact absurd (show (7 : Int32) ≤ nI k from nI_le (a := 7) q (by omega)) c_2
        refine lv_iload_n hx hb dX3_extend_29 rfl (lv_at hl 3 rfl) ?_
        refine lv_iload hx hb dX3_extend_30 (lv_at hl 8 rfl) ?_
        refine lv_ishr hx hb dX3_extend_32 ?_
        refine lv_topi (fun x_3 ex_3 => ?_)
        refine lv_iconst (v := 1) hx hb dX3_extend_33 (by decide) ?_
        refine lv_iand hx hb dX3_extend_34 ?_
        refine lv_topi (fun x_4 ex_4 => ?_)
        refine lv_if_eq (tgt := 42) hx hb dX3_extend_35 (by decide) (fun c_5 => ?_) (fun c_5 => ?_)
        · refine lv_aload_n hx hb dX3_extend_42 rfl (lv_at hl 0 rfl) ?_
          refine va_get (D := E.1) (ci := 3) (v := .ref of) (C := RX3) (T := TX3) (N := 5) hx hb hts inX3 hown hK hP 0 rfl rfl 0 (by decide) fl24 (fun _ h9 => h9) rfl dX3_extend_43 ?_
          refine lv_iload hx hb dX3_extend_46 (lv_at hl 8 rfl) ?_
          refine lv_iload hx hb dX3_extend_48 (lv_at hl 4 rfl) ?_
          refine lv_iload hx hb dX3_extend_50 (lv_at hl 5 rfl) ?_
          have hPc := hP.sub (ws' := [(of, .inr (2, [.ref g1, .ref g2, .ref g3, .ref g4, .ref g5, .int (nI on), .ref g6, .ref g7, .ref g8])), (g1, .inl (E.2.1 0, 7, .inl d1)), (g4, .inl (E.2.1 0, 7, .inl d4)), (g5, .inl (E.2.1 0, 7, .inl d5)), (g8, .inl (E.2.1 0, 100, .inl d8))]) [1, 2, 5, 6, 7] rfl
          have hDc := hD.sub (ws' := [(of, .inr (2, [.ref g1, .ref g2, .ref g3, .ref g4, .ref g5, .int (nI on), .ref g6, .ref g7, .ref g8])), (g1, .inl (E.2.1 0, 7, .inl d1)), (g4, .inl (E.2.1 0, 7, .inl d4)), (g5, .inl (E.2.1 0, 7, .inl d5)), (g8, .inl (E.2.1 0, 100, .inl d8))]) [1, 2, 5, 6, 7] (by decide) rfl
          have hFc := va_free (wc := [(of, .inr (2, [.ref g1, .ref g2, .ref g3, .ref g4, .ref g5, .int (nI on), .ref g6, .ref g7, .ref g8])), (g1, .inl (E.2.1 0, 7, .inl d1)), (g4, .inl (E.2.1 0, 7, .inl d4)), (g5, .inl (E.2.1 0, 7, .inl d5)), (g8, .inl (E.2.1 0, 100, .inl d8))]) hD hS hA [1, 2, 5, 6, 7] rfl
          refine va_calli (va_runV (As := [.int (nI k), .int po_, .int da]) (rest := []) ⟨hx, hb, hml, hown, hts⟩ (c_X2_startOf l E of g1 g2 g3 g4 g5 g6 g7 g8 on d1 d4 d5 d8 k po_ da H.size hlt hd1) (cwV 3 hts gX3_extend_X2_startOf rfl rfl rfl hdV_X2_startOf ⟨Nat.le_of_ble_eq_true rfl, Nat.le_of_ble_eq_true rfl⟩) ⟨pcW_blind, va_recv hK hPc (ci := 2) (q0 := 0) rfl rfl, (pcW_pre hPc hkn hDc hst hS hFc)⟩ rfl rfl hl.1 rfl (lv_room (Nat.le_of_ble_eq_true rfl)) dX3_extend_52 ⟨Nat.le_of_ble_eq_true rfl, Nat.le_of_ble_eq_true rfl⟩) hS (fun q _ h => hFc q h) hFc (fun r_6 u t H1 locs ht hvm hw_7 hB hz1 hk1 hS => ?_)
          obtain ⟨hP1, hD1⟩ := hB
          rw [ht] at hP1
          try dsimp only at hw_7
          obtain ⟨hP, hD⟩ := va_join (wr := [(h0, .inr (3, [.ref of, .ref e1, .ref e2, .ref e3, .ref e4])), (g2, .inl (E.2.1 0, 7, .inl d2)), (g3, .inl (E.2.1 0, 7, .inl d3)), (e1, .inl (E.2.1 0, 512, .inl c1)), (e2, .inl (E.2.1 0, 512, .inl c2)), (e3, .inl (E.2.1 0, 896, .inl c3)), (e4, .inl (E.2.1 0, 896, .inl c4))]) (w1 := [(of, .inr (2, [.ref g1, .ref g2, .ref g3, .ref g4, .ref g5, .int (nI on), .ref g6, .ref g7, .ref g8])), (g1, .inl (E.2.1 0, 7, .inl d1)), (g4, .inl (E.2.1 0, 7, .inl d4)), (g5, .inl (E.2.1 0, 7, .inl d5)), (g8, .inl (E.2.1 0, 100, .inl d8))]) hP hD [1, 2, 5, 6, 7] [0, 3, 4, 8, 9, 10, 11] rfl rfl (by decide) (by decide) hk1 hFc hP1 hD1
          generalize H1 = H at hP hS ⊢
          have hP : va_P E.1 vwCl [(h0, .inr (3, [.ref of, .ref e1, .ref e2, .ref e3, .ref e4])), (g2, .inl (E.2.1 0, 7, .inl d2)), (g3, .inl (E.2.1 0, 7, .inl d3)), (e1, .inl (E.2.1 0, 512, .inl c1)), (e2, .inl (E.2.1 0, 512, .inl c2)), (e3, .inl (E.2.1 0, 896, .inl c3)), (e4, .inl (E.2.1 0, 896, .inl c4)), (of, .inr (2, [.ref g1, .ref g2, .ref g3, .ref g4, .ref g5, .int (nI on), .ref g6, .ref g7, .ref g8])), (g1, .inl (E.2.1 0, 7, .inl d1)), (g4, .inl (E.2.1 0, 7, .inl d4)), (g5, .inl (E.2.1 0, 7, .inl d5)), (g8, .inl (E.2.1 0, 100, .inl d8))] H := hP
          have hD : va_D A [(h0, .inr (3, [.ref of, .ref e1, .ref e2, .ref e3, .ref e4])), (g2, .inl (E.2.1 0, 7, .inl d2)), (g3, .inl (E.2.1 0, 7, .inl d3)), (e1, .inl (E.2.1 0, 512, .inl c1)), (e2, .inl (E.2.1 0, 512, .inl c2)), (e3, .inl (E.2.1 0, 896, .inl c3)), (e4, .inl (E.2.1 0, 896, .inl c4)), (of, .inr (2, [.ref g1, .ref g2, .ref g3, .ref g4, .ref g5, .int (nI on), .ref g6, .ref g7, .ref g8])), (g1, .inl (E.2.1 0, 7, .inl d1)), (g4, .inl (E.2.1 0, 7, .inl d4)), (g5, .inl (E.2.1 0, 7, .inl d5)), (g8, .inl (E.2.1 0, 100, .inl d8))] := hD
          refine lv_istore (lv' := [(9, .int r_6), (0, .ref h0), (1, .int (nI cr)), (2, .int 1), (3, .int (nI se_)), (4, .int po_), (5, .int da), (6, .int co_), (7, .int or_), (8, .int (nI k))]) hx hb dX3_extend_55 hl (by decide) rfl (fun ls hl => ?_)
          refine lv_iload hx hb dX3_extend_57 (lv_at hl 0 rfl) ?_
          refine lv_iconst (v := (-1)) hx hb dX3_extend_59 (by decide) ?_
          refine lv_icmp_eq (tgt := 179) hx hb dX3_extend_60 (by decide) (fun c_8 => ?_) (fun c_8 => ?_)
          · refine lv_iinc (v := (nI (k + 1))) (lv' := [(8, .int (nI (k + 1))), (9, .int r_6), (0, .ref h0), (1, .int (nI cr)), (2, .int 1), (3, .int (nI se_)), (4, .int po_), (5, .int da), (6, .int co_), (7, .int or_)]) hx hb dX3_extend_179 hl (k := 9) rfl (show nI k + 1 = nI (k + 1) from nI_1 k) (by decide) rfl (fun ls hl => ?_)
            refine lv_goto (tgt := 10) hx hb dX3_extend_182 (by decide) ?_
            exact ih (k + 1) c1 c2 c3 c4 _ _ _ (by omega) (by omega) (hP.sub [0, 7, 8, 1, 2, 9, 10, 11, 3, 4, 5, 6] rfl) (hD.sub [0, 7, 8, 1, 2, 9, 10, 11, 3, 4, 5, 6] (by decide) rfl) hS (lv_sub hl [2, 3, 4, 5, 6, 7, 8, 9, 0] rfl)
          · refine lv_iload hx hb dX3_extend_63 (lv_at hl 0 rfl) ?_
            refine lv_aload_n hx hb dX3_extend_65 rfl (lv_at hl 1 rfl) ?_
            refine va_get (D := E.1) (ci := 3) (v := .ref of) (C := RX3) (T := TX3) (N := 5) hx hb hts inX3 hown hK hP 0 rfl rfl 0 (by decide) fl24 (fun _ h9 => h9) rfl dX3_extend_66 ?_
            refine va_get (D := E.1) (ci := 2) (v := .ref g3) (C := RX2) (T := TX2) (N := 9) hx hb hts inX2 hown hK hP 7 rfl rfl 2 (by decide) fl55 (fun _ h9 => h9) rfl dX3_extend_69 ?_
            refine lv_iload hx hb dX3_extend_72 (lv_at hl 9 rfl) ?_
            have hi_9 : vp_in (nI k) 7 := vp_in_nI hlt (by decide)
            refine va_iald hx hb hK hP 2 0 rfl rfl hi_9 dX3_extend_74 ?_
            refine lv_topi (fun x_10 ex_10 => ?_)
            refine lv_iadd hx hb dX3_extend_75 ?_
            refine lv_topi (fun x_11 ex_11 => ?_)
            refine lv_istore (lv' := [(10, .int x_11), (9, .int r_6), (0, .ref h0), (1, .int (nI cr)), (2, .int 1), (3, .int (nI se_)), (4, .int po_), (5, .int da), (6, .int co_), (7, .int or_), (8, .int (nI k))]) hx hb dX3_extend_76 hl (by decide) rfl (fun ls hl => ?_)
            refine lv_iload hx hb dX3_extend_78 (lv_at hl 8 rfl) ?_
            refine lv_aload_n hx hb dX3_extend_80 rfl (lv_at hl 2 rfl) ?_
            refine va_get (D := E.1) (ci := 3) (v := .ref of) (C := RX3) (T := TX3) (N := 5) hx hb hts inX3 hown hK hP 0 rfl rfl 0 (by decide) fl24 (fun _ h9 => h9) rfl dX3_extend_81 ?_
            refine lv_iload hx hb dX3_extend_84 (lv_at hl 10 rfl) ?_
            refine lv_iload hx hb dX3_extend_86 (lv_at hl 6 rfl) ?_
            have hPc := hP.sub (ws' := [(of, .inr (2, [.ref g1, .ref g2, .ref g3, .ref g4, .ref g5, .int (nI on), .ref g6, .ref g7, .ref g8])), (g1, .inl (E.2.1 0, 7, .inl d1)), (g8, .inl (E.2.1 0, 100, .inl d8))]) [7, 8, 11] rfl
            have hDc := hD.sub (ws' := [(of, .inr (2, [.ref g1, .ref g2, .ref g3, .ref g4, .ref g5, .int (nI on), .ref g6, .ref g7, .ref g8])), (g1, .inl (E.2.1 0, 7, .inl d1)), (g8, .inl (E.2.1 0, 100, .inl d8))]) [7, 8, 11] (by decide) rfl
            have hFc := va_free (wc := [(of, .inr (2, [.ref g1, .ref g2, .ref g3, .ref g4, .ref g5, .int (nI on), .ref g6, .ref g7, .ref g8])), (g1, .inl (E.2.1 0, 7, .inl d1)), (g8, .inl (E.2.1 0, 100, .inl d8))]) hD hS hA [7, 8, 11] rfl
            refine va_calli (va_runV (As := [.int (nI k), .int po_]) (rest := [.int co_]) ⟨hx, hb, hml, hown, hts⟩ (c_X2_fareTo l E of g1 g2 g3 g4 g5 g6 g7 g8 on d1 d8 k po_ H.size hlt hd1) (cwV 2 hts gX3_extend_X2_fareTo rfl rfl rfl hdV_X2_fareTo ⟨Nat.le_of_ble_eq_true rfl, Nat.le_of_ble_eq_true rfl⟩) ⟨pcW_blind, va_recv hK hPc (ci := 2) (q0 := 0) rfl rfl, (pcW_pre hPc hkn hDc hst hS hFc)⟩ rfl rfl hl.1 rfl (lv_room (Nat.le_of_ble_eq_true rfl)) dX3_extend_88 ⟨Nat.le_of_ble_eq_true rfl, Nat.le_of_ble_eq_true rfl⟩) hS (fun q _ h => hFc q h) hFc (fun r_12 u t H1 locs ht hvm hw_13 hB hz1 hk1 hS => ?_)
            obtain ⟨hP1, hD1⟩ := hB
            rw [ht] at hP1
            try dsimp only at hw_13
            obtain ⟨hP, hD⟩ := va_join (wr := [(h0, .inr (3, [.ref of, .ref e1, .ref e2, .ref e3, .ref e4])), (g2, .inl (E.2.1 0, 7, .inl d2)), (g3, .inl (E.2.1 0, 7, .inl d3)), (e1, .inl (E.2.1 0, 512, .inl c1)), (e2, .inl (E.2.1 0, 512, .inl c2)), (e3, .inl (E.2.1 0, 896, .inl c3)), (e4, .inl (E.2.1 0, 896, .inl c4)), (g4, .inl (E.2.1 0, 7, .inl d4)), (g5, .inl (E.2.1 0, 7, .inl d5))]) (w1 := [(of, .inr (2, [.ref g1, .ref g2, .ref g3, .ref g4, .ref g5, .int (nI on), .ref g6, .ref g7, .ref g8])), (g1, .inl (E.2.1 0, 7, .inl d1)), (g8, .inl (E.2.1 0, 100, .inl d8))]) hP hD [7, 8, 11] [0, 1, 2, 3, 4, 5, 6, 9, 10] rfl rfl (by decide) (by decide) hk1 hFc hP1 hD1
            generalize H1 = H at hP hS ⊢
            have hP : va_P E.1 vwCl [(h0, .inr (3, [.ref of, .ref e1, .ref e2, .ref e3, .ref e4])), (g2, .inl (E.2.1 0, 7, .inl d2)), (g3, .inl (E.2.1 0, 7, .inl d3)), (e1, .inl (E.2.1 0, 512, .inl c1)), (e2, .inl (E.2.1 0, 512, .inl c2)), (e3, .inl (E.2.1 0, 896, .inl c3)), (e4, .inl (E.2.1 0, 896, .inl c4)), (g4, .inl (E.2.1 0, 7, .inl d4)), (g5, .inl (E.2.1 0, 7, .inl d5)), (of, .inr (2, [.ref g1, .ref g2, .ref g3, .ref g4, .ref g5, .int (nI on), .ref g6, .ref g7, .ref g8])), (g1, .inl (E.2.1 0, 7, .inl d1)), (g8, .inl (E.2.1 0, 100, .inl d8))] H := hP
            have hD : va_D A [(h0, .inr (3, [.ref of, .ref e1, .ref e2, .ref e3, .ref e4])), (g2, .inl (E.2.1 0, 7, .inl d2)), (g3, .inl (E.2.1 0, 7, .inl d3)), (e1, .inl (E.2.1 0, 512, .inl c1)), (e2, .inl (E.2.1 0, 512, .inl c2)), (e3, .inl (E.2.1 0, 896, .inl c3)), (e4, .inl (E.2.1 0, 896, .inl c4)), (g4, .inl (E.2.1 0, 7, .inl d4)), (g5, .inl (E.2.1 0, 7, .inl d5)), (of, .inr (2, [.ref g1, .ref g2, .ref g3, .ref g4, .ref g5, .int (nI on), .ref g6, .ref g7, .ref g8])), (g1, .inl (E.2.1 0, 7, .inl d1)), (g8, .inl (E.2.1 0, 100, .inl d8))] := hD
            refine lv_iadd hx hb dX3_extend_91 ?_
            refine lv_topi (fun x_14 ex_14 => ?_)
            refine lv_istore (lv' := [(11, .int x_14), (10, .int x_11), (9, .int r_6), (0, .ref h0), (1, .int (nI cr)), (2, .int 1), (3, .int (nI se_)), (4, .int po_), (5, .int da), (6, .int co_), (7, .int or_), (8, .int (nI k))]) hx hb dX3_extend_92 hl (by decide) rfl (fun ls hl => ?_)
            refine lv_iload_n hx hb dX3_extend_94 rfl (lv_at hl 6 rfl) ?_
            refine lv_iconst (v := 1) hx hb dX3_extend_95 (by decide) ?_
            refine lv_iload hx hb dX3_extend_96 (lv_at hl 11 rfl) ?_
            refine lv_ishl hx hb dX3_extend_98 ?_
            refine lv_topi (fun x_15 ex_15 => ?_)
            refine lv_ior hx hb dX3_extend_99 ?_
            refine lv_topi (fun x_16 ex_16 => ?_)
            obtain ⟨w_17, hwd_18, ew_19⟩ : ∃ w, w < 128 ∧ x_16 = nI w := by rw [ex_16, ex_15]; exact or_bit hse hlt
            subst ew_19
            refine lv_istore (lv' := [(12, .int (nI w_17)), (11, .int x_14), (10, .int x_11), (9, .int r_6), (0, .ref h0), (1, .int (nI cr)), (2, .int 1), (3, .int (nI se_)), (4, .int po_), (5, .int da), (6, .int co_), (7, .int or_), (8, .int (nI k))]) hx hb dX3_extend_100 hl (by decide) rfl (fun ls hl => ?_)
            refine lv_aload_n hx hb dX3_extend_102 rfl (lv_at hl 4 rfl) ?_
            refine lv_iload hx hb dX3_extend_103 (lv_at hl 0 rfl) ?_
            refine lv_bipush (v := 7) hx hb dX3_extend_105 (by decide) ?_
            refine lv_imul hx hb dX3_extend_107 ?_
            refine lv_topi (fun x_20 ex_20 => ?_)
            obtain rfl : x_20 = nI (w_17 * 7) := ex_20.trans (pk_mul w_17 7)
            refine lv_iload hx hb dX3_extend_108 (lv_at hl 12 rfl) ?_
            refine lv_iadd hx hb dX3_extend_110 ?_
            refine lv_topi (fun x_21 ex_21 => ?_)
            obtain rfl : x_21 = nI ((w_17 * 7) + k) := ex_21.trans (nI_add (w_17 * 7) k)
            refine lv_iload hx hb dX3_extend_111 (lv_at hl 2 rfl) ?_
            refine lv_iload hx hb dX3_extend_113 (lv_at hl 1 rfl) ?_
            have hPc := hP.sub (ws' := [(h0, .inr (3, [.ref of, .ref e1, .ref e2, .ref e3, .ref e4])), (e3, .inl (E.2.1 0, 896, .inl c3)), (e4, .inl (E.2.1 0, 896, .inl c4))]) [0, 5, 6] rfl
            have hDc := hD.sub (ws' := [(h0, .inr (3, [.ref of, .ref e1, .ref e2, .ref e3, .ref e4])), (e3, .inl (E.2.1 0, 896, .inl c3)), (e4, .inl (E.2.1 0, 896, .inl c4))]) [0, 5, 6] (by decide) rfl
            have hFc := va_free (wc := [(h0, .inr (3, [.ref of, .ref e1, .ref e2, .ref e3, .ref e4])), (e3, .inl (E.2.1 0, 896, .inl c3)), (e4, .inl (E.2.1 0, 896, .inl c4))]) hD hS hA [0, 5, 6] rfl
            refine va_calli (va_runV (As := [.int (nI ((w_17 * 7) + k)), .int x_11, .int x_14]) (rest := []) ⟨hx, hb, hml, hown, hts⟩ (c_X3_outdone l E h0 of e1 e2 e3 e4 ((w_17 * 7) + k) x_11 x_14 c3 c4 H.size (by omega)) (cwV 3 hts gX3_extend_X3_outdone rfl rfl rfl hdV_X3_outdone ⟨Nat.le_of_ble_eq_true rfl, Nat.le_of_ble_eq_true rfl⟩) ⟨pcW_blind, va_recv hK hPc (ci := 3) (q0 := 0) rfl rfl, (pcW_pre hPc hkn hDc hst hS hFc)⟩ rfl rfl hl.1 rfl (lv_room (Nat.le_of_ble_eq_true rfl)) dX3_extend_115 ⟨Nat.le_of_ble_eq_true rfl, Nat.le_of_ble_eq_true rfl⟩) hS (fun q _ h => hFc q h) hFc (fun r_22 u t H1 locs ht hvm hw_23 hB hz1 hk1 hS => ?_)
            obtain ⟨u_24, u_25⟩ := u
            obtain ⟨hP1, hD1⟩ := hB
            rw [ht] at hP1
            try dsimp only at hw_23
            obtain ⟨hP, hD⟩ := va_join (wr := [(g2, .inl (E.2.1 0, 7, .inl d2)), (g3, .inl (E.2.1 0, 7, .inl d3)), (e1, .inl (E.2.1 0, 512, .inl c1)), (e2, .inl (E.2.1 0, 512, .inl c2)), (g4, .inl (E.2.1 0, 7, .inl d4)), (g5, .inl (E.2.1 0, 7, .inl d5)), (of, .inr (2, [.ref g1, .ref g2, .ref g3, .ref g4, .ref g5, .int (nI on), .ref g6, .ref g7, .ref g8])), (g1, .inl (E.2.1 0, 7, .inl d1)), (g8, .inl (E.2.1 0, 100, .inl d8))]) (w1 := [(h0, .inr (3, [.ref of, .ref e1, .ref e2, .ref e3, .ref e4])), (e3, .inl (E.2.1 0, 896, .inl u_24)), (e4, .inl (E.2.1 0, 896, .inl u_25))]) hP hD [0, 5, 6] [1, 2, 3, 4, 7, 8, 9, 10, 11] rfl rfl (by decide) (by decide) hk1 hFc hP1 hD1
            generalize H1 = H at hP hS ⊢
            have hP : va_P E.1 vwCl [(g2, .inl (E.2.1 0, 7, .inl d2)), (g3, .inl (E.2.1 0, 7, .inl d3)), (e1, .inl (E.2.1 0, 512, .inl c1)), (e2, .inl (E.2.1 0, 512, .inl c2)), (g4, .inl (E.2.1 0, 7, .inl d4)), (g5, .inl (E.2.1 0, 7, .inl d5)), (of, .inr (2, [.ref g1, .ref g2, .ref g3, .ref g4, .ref g5, .int (nI on), .ref g6, .ref g7, .ref g8])), (g1, .inl (E.2.1 0, 7, .inl d1)), (g8, .inl (E.2.1 0, 100, .inl d8)), (h0, .inr (3, [.ref of, .ref e1, .ref e2, .ref e3, .ref e4])), (e3, .inl (E.2.1 0, 896, .inl u_24)), (e4, .inl (E.2.1 0, 896, .inl u_25))] H := hP
            have hD : va_D A [(g2, .inl (E.2.1 0, 7, .inl d2)), (g3, .inl (E.2.1 0, 7, .inl d3)), (e1, .inl (E.2.1 0, 512, .inl c1)), (e2, .inl (E.2.1 0, 512, .inl c2)), (g4, .inl (E.2.1 0, 7, .inl d4)), (g5, .inl (E.2.1 0, 7, .inl d5)), (of, .inr (2, [.ref g1, .ref g2, .ref g3, .ref g4, .ref g5, .int (nI on), .ref g6, .ref g7, .ref g8])), (g1, .inl (E.2.1 0, 7, .inl d1)), (g8, .inl (E.2.1 0, 100, .inl d8)), (h0, .inr (3, [.ref of, .ref e1, .ref e2, .ref e3, .ref e4])), (e3, .inl (E.2.1 0, 896, .inl u_24)), (e4, .inl (E.2.1 0, 896, .inl u_25))] := hD
            refine lv_if_ne (tgt := 179) hx hb dX3_extend_118 (by decide) (fun c_26 => ?_) (fun c_26 => ?_)
            · refine lv_iinc (v := (nI (k + 1))) (lv' := [(8, .int (nI (k + 1))), (12, .int (nI w_17)), (11, .int x_14), (10, .int x_11), (9, .int r_6), (0, .ref h0), (1, .int (nI cr)), (2, .int 1), (3, .int (nI se_)), (4, .int po_), (5, .int da), (6, .int co_), (7, .int or_)]) hx hb dX3_extend_179 hl (k := 12) rfl (show nI k + 1 = nI (k + 1) from nI_1 k) (by decide) rfl (fun ls hl => ?_)
              refine lv_goto (tgt := 10) hx hb dX3_extend_182 (by decide) ?_
              exact ih (k + 1) c1 c2 u_24 u_25 _ _ _ (by omega) (by omega) (hP.sub [9, 6, 7, 0, 1, 4, 5, 8, 2, 3, 10, 11] rfl) (hD.sub [9, 6, 7, 0, 1, 4, 5, 8, 2, 3, 10, 11] (by decide) rfl) hS (lv_sub hl [5, 6, 7, 8, 9, 10, 11, 12, 0] rfl)
            · refine lv_aload_n hx hb dX3_extend_121 rfl (lv_at hl 4 rfl) ?_
              refine lv_iload_n hx hb dX3_extend_122 rfl (lv_at hl 5 rfl) ?_
              refine lv_sipush (v := 128) hx hb dX3_extend_123 (by decide) ?_
              refine lv_imul hx hb dX3_extend_126 ?_
              refine lv_topi (fun x_27 ex_27 => ?_)
              obtain rfl : x_27 = nI (cr * 128) := ex_27.trans (pk_mul cr 128)
              refine lv_iload hx hb dX3_extend_127 (lv_at hl 0 rfl) ?_
              refine lv_iadd hx hb dX3_extend_129 ?_
              refine lv_topi (fun x_28 ex_28 => ?_)
              obtain rfl : x_28 = nI ((cr * 128) + w_17) := ex_28.trans (nI_add (cr * 128) w_17)
              refine lv_iload hx hb dX3_extend_130 (lv_at hl 1 rfl) ?_
              refine lv_iload hx hb dX3_extend_132 (lv_at hl 11 rfl) ?_
              refine lv_bipush (v := 8) hx hb dX3_extend_134 (by decide) ?_
              refine lv_imul hx hb dX3_extend_136 ?_
              refine lv_topi (fun x_29 ex_29 => ?_)
              refine lv_iload hx hb dX3_extend_137 (lv_at hl 12 rfl) ?_
              refine lv_iadd hx hb dX3_extend_139 ?_
              refine lv_topi (fun x_30 ex_30 => ?_)
              refine lv_iconst (v := 1) hx hb dX3_extend_140 (by decide) ?_
              refine lv_iadd hx hb dX3_extend_141 ?_
              refine lv_topi (fun x_31 ex_31 => ?_)
              have hPc := hP.sub (ws' := [(h0, .inr (3, [.ref of, .ref e1, .ref e2, .ref e3, .ref e4])), (e1, .inl (E.2.1 0, 512, .inl c1)), (e2, .inl (E.2.1 0, 512, .inl c2))]) [9, 2, 3] rfl
              have hDc := hD.sub (ws' := [(h0, .inr (3, [.ref of, .ref e1, .ref e2, .ref e3, .ref e4])), (e1, .inl (E.2.1 0, 512, .inl c1)), (e2, .inl (E.2.1 0, 512, .inl c2))]) [9, 2, 3] (by decide) rfl
              have hFc := va_free (wc := [(h0, .inr (3, [.ref of, .ref e1, .ref e2, .ref e3, .ref e4])), (e1, .inl (E.2.1 0, 512, .inl c1)), (e2, .inl (E.2.1 0, 512, .inl c2))]) hD hS hA [9, 2, 3] rfl
              refine va_callv (va_runV (As := [.int (nI ((cr * 128) + w_17)), .int x_14, .int x_31]) (rest := []) ⟨hx, hb, hml, hown, hts⟩ (c_X3_keep l E h0 of e1 e2 e3 e4 ((cr * 128) + w_17) x_14 x_31 c1 c2 H.size (by omega)) (cwV 3 hts gX3_extend_X3_keep rfl rfl rfl hdV_X3_keep ⟨Nat.le_of_ble_eq_true rfl, Nat.le_of_ble_eq_true rfl⟩) ⟨pcW_blind, va_recv hK hPc (ci := 3) (q0 := 0) rfl rfl, (pcW_pre hPc hkn hDc hst hS hFc)⟩ rfl rfl hl.1 rfl (lv_room (Nat.le_of_ble_eq_true rfl)) dX3_extend_142 ⟨Nat.le_of_ble_eq_true rfl, Nat.le_of_ble_eq_true rfl⟩) hS (fun q _ h => hFc q h) hFc (fun u t H1 locs ht hvm hw_33 hB hz1 hk1 hS => ?_)
              obtain ⟨u_34, u_35⟩ := u
              obtain ⟨hP1, hD1⟩ := hB
              rw [ht] at hP1
              try dsimp only at hw_33
              obtain ⟨hP, hD⟩ := va_join (wr := [(g2, .inl (E.2.1 0, 7, .inl d2)), (g3, .inl (E.2.1 0, 7, .inl d3)), (g4, .inl (E.2.1 0, 7, .inl d4)), (g5, .inl (E.2.1 0, 7, .inl d5)), (of, .inr (2, [.ref g1, .ref g2, .ref g3, .ref g4, .ref g5, .int (nI on), .ref g6, .ref g7, .ref g8])), (g1, .inl (E.2.1 0, 7, .inl d1)), (g8, .inl (E.2.1 0, 100, .inl d8)), (e3, .inl (E.2.1 0, 896, .inl u_24)), (e4, .inl (E.2.1 0, 896, .inl u_25))]) (w1 := [(h0, .inr (3, [.ref of, .ref e1, .ref e2, .ref e3, .ref e4])), (e1, .inl (E.2.1 0, 512, .inl u_34)), (e2, .inl (E.2.1 0, 512, .inl u_35))]) hP hD [9, 2, 3] [0, 1, 4, 5, 6, 7, 8, 10, 11] rfl rfl (by decide) (by decide) hk1 hFc hP1 hD1
              generalize H1 = H at hP hS ⊢
              have hP : va_P E.1 vwCl [(g2, .inl (E.2.1 0, 7, .inl d2)), (g3, .inl (E.2.1 0, 7, .inl d3)), (g4, .inl (E.2.1 0, 7, .inl d4)), (g5, .inl (E.2.1 0, 7, .inl d5)), (of, .inr (2, [.ref g1, .ref g2, .ref g3, .ref g4, .ref g5, .int (nI on), .ref g6, .ref g7, .ref g8])), (g1, .inl (E.2.1 0, 7, .inl d1)), (g8, .inl (E.2.1 0, 100, .inl d8)), (e3, .inl (E.2.1 0, 896, .inl u_24)), (e4, .inl (E.2.1 0, 896, .inl u_25)), (h0, .inr (3, [.ref of, .ref e1, .ref e2, .ref e3, .ref e4])), (e1, .inl (E.2.1 0, 512, .inl u_34)), (e2, .inl (E.2.1 0, 512, .inl u_35))] H := hP
              have hD : va_D A [(g2, .inl (E.2.1 0, 7, .inl d2)), (g3, .inl (E.2.1 0, 7, .inl d3)), (g4, .inl (E.2.1 0, 7, .inl d4)), (g5, .inl (E.2.1 0, 7, .inl d5)), (of, .inr (2, [.ref g1, .ref g2, .ref g3, .ref g4, .ref g5, .int (nI on), .ref g6, .ref g7, .ref g8])), (g1, .inl (E.2.1 0, 7, .inl d1)), (g8, .inl (E.2.1 0, 100, .inl d8)), (e3, .inl (E.2.1 0, 896, .inl u_24)), (e4, .inl (E.2.1 0, 896, .inl u_25)), (h0, .inr (3, [.ref of, .ref e1, .ref e2, .ref e3, .ref e4])), (e1, .inl (E.2.1 0, 512, .inl u_34)), (e2, .inl (E.2.1 0, 512, .inl u_35))] := hD
              refine lv_aload_n hx hb dX3_extend_145 rfl (lv_at hl 4 rfl) ?_
              refine lv_iload_n hx hb dX3_extend_146 rfl (lv_at hl 5 rfl) ?_
              refine lv_iload_n hx hb dX3_extend_147 rfl (lv_at hl 6 rfl) ?_
              refine lv_iconst (v := 1) hx hb dX3_extend_148 (by decide) ?_
              refine lv_iadd hx hb dX3_extend_149 ?_
              refine lv_topi (fun x_36 ex_36 => ?_)
              obtain rfl : x_36 = 2 := ex_36.trans (by decide +kernel)
              refine lv_iload hx hb dX3_extend_150 (lv_at hl 0 rfl) ?_
              refine lv_aload_n hx hb dX3_extend_152 rfl (lv_at hl 4 rfl) ?_
              refine va_get (D := E.1) (ci := 3) (v := .ref of) (C := RX3) (T := TX3) (N := 5) hx hb hts inX3 hown hK hP 9 rfl rfl 0 (by decide) fl24 (fun _ h9 => h9) rfl dX3_extend_153 ?_
              refine va_get (D := E.1) (ci := 2) (v := .ref g2) (C := RX2) (T := TX2) (N := 9) hx hb hts inX2 hown hK hP 4 rfl rfl 1 (by decide) fl70 (fun _ h9 => h9) rfl dX3_extend_156 ?_
              refine lv_iload hx hb dX3_extend_159 (lv_at hl 12 rfl) ?_
              refine va_iald hx hb hK hP 0 0 rfl rfl hi_9 dX3_extend_161 ?_
              refine lv_topi (fun x_37 ex_37 => ?_)
              refine lv_iload hx hb dX3_extend_162 (lv_at hl 2 rfl) ?_
              refine lv_iload hx hb dX3_extend_164 (lv_at hl 1 rfl) ?_
              refine lv_iload hx hb dX3_extend_166 (lv_at hl 11 rfl) ?_
              refine lv_bipush (v := 8) hx hb dX3_extend_168 (by decide) ?_
              refine lv_imul hx hb dX3_extend_170 ?_
              refine lv_topi (fun x_38 ex_38 => ?_)
              refine lv_iload hx hb dX3_extend_171 (lv_at hl 12 rfl) ?_
              refine lv_iadd hx hb dX3_extend_173 ?_
              refine lv_topi (fun x_39 ex_39 => ?_)
              refine lv_iconst (v := 1) hx hb dX3_extend_174 (by decide) ?_
              refine lv_iadd hx hb dX3_extend_175 ?_
              refine lv_topi (fun x_40 ex_40 => ?_)
              have hPc := hP.sub (ws' := [(h0, .inr (3, [.ref of, .ref e1, .ref e2, .ref e3, .ref e4])), (of, .inr (2, [.ref g1, .ref g2, .ref g3, .ref g4, .ref g5, .int (nI on), .ref g6, .ref g7, .ref g8])), (g1, .inl (E.2.1 0, 7, .inl d1)), (g2, .inl (E.2.1 0, 7, .inl d2)), (g3, .inl (E.2.1 0, 7, .inl d3)), (g4, .inl (E.2.1 0, 7, .inl d4)), (g5, .inl (E.2.1 0, 7, .inl d5)), (g8, .inl (E.2.1 0, 100, .inl d8)), (e1, .inl (E.2.1 0, 512, .inl u_34)), (e2, .inl (E.2.1 0, 512, .inl u_35)), (e3, .inl (E.2.1 0, 896, .inl u_24)), (e4, .inl (E.2.1 0, 896, .inl u_25))]) [9, 4, 5, 0, 1, 2, 3, 6, 10, 11, 7, 8] rfl
              have hDc := hD.sub (ws' := [(h0, .inr (3, [.ref of, .ref e1, .ref e2, .ref e3, .ref e4])), (of, .inr (2, [.ref g1, .ref g2, .ref g3, .ref g4, .ref g5, .int (nI on), .ref g6, .ref g7, .ref g8])), (g1, .inl (E.2.1 0, 7, .inl d1)), (g2, .inl (E.2.1 0, 7, .inl d2)), (g3, .inl (E.2.1 0, 7, .inl d3)), (g4, .inl (E.2.1 0, 7, .inl d4)), (g5, .inl (E.2.1 0, 7, .inl d5)), (g8, .inl (E.2.1 0, 100, .inl d8)), (e1, .inl (E.2.1 0, 512, .inl u_34)), (e2, .inl (E.2.1 0, 512, .inl u_35)), (e3, .inl (E.2.1 0, 896, .inl u_24)), (e4, .inl (E.2.1 0, 896, .inl u_25))]) [9, 4, 5, 0, 1, 2, 3, 6, 10, 11, 7, 8] (by decide) rfl
              have hFc := va_free (wc := [(h0, .inr (3, [.ref of, .ref e1, .ref e2, .ref e3, .ref e4])), (of, .inr (2, [.ref g1, .ref g2, .ref g3, .ref g4, .ref g5, .int (nI on), .ref g6, .ref g7, .ref g8])), (g1, .inl (E.2.1 0, 7, .inl d1)), (g2, .inl (E.2.1 0, 7, .inl d2)), (g3, .inl (E.2.1 0, 7, .inl d3)), (g4, .inl (E.2.1 0, 7, .inl d4)), (g5, .inl (E.2.1 0, 7, .inl d5)), (g8, .inl (E.2.1 0, 100, .inl d8)), (e1, .inl (E.2.1 0, 512, .inl u_34)), (e2, .inl (E.2.1 0, 512, .inl u_35)), (e3, .inl (E.2.1 0, 896, .inl u_24)), (e4, .inl (E.2.1 0, 896, .inl u_25))]) hD hS hA [9, 4, 5, 0, 1, 2, 3, 6, 10, 11, 7, 8] rfl
              refine va_callv (va_runV (As := [.int (nI cr), .int 2, .int (nI w_17), .int x_37, .int x_11, .int x_14, .int x_40]) (rest := []) ⟨hx, hb, hml, hown, hts⟩ (c_X3_extend2 l E h0 of e1 e2 e3 e4 g1 g2 g3 g4 g5 g6 g7 g8 on d1 d2 d3 d4 d5 d8 cr w_17 x_37 x_11 x_14 x_40 u_34 u_35 u_24 u_25 H.size hcr hwd_18 hd1) (cwV 7 hts gX3_extend_X3_extend rfl rfl rfl hdV_X3_extend ⟨Nat.le_of_ble_eq_true rfl, Nat.le_of_ble_eq_true rfl⟩) ⟨pcW_blind, va_recv hK hPc (ci := 3) (q0 := 0) rfl rfl, (pcW_pre hPc hkn hDc hst hS hFc)⟩ rfl rfl hl.1 rfl (lv_room (Nat.le_of_ble_eq_true rfl)) dX3_extend_176 ⟨Nat.le_of_ble_eq_true rfl, Nat.le_of_ble_eq_true rfl⟩) hS (fun q _ h => hFc q h) hFc (fun u t H1 locs ht hvm hw_42 hB hz1 hk1 hS => ?_)
              obtain ⟨u_43, u_44, u_45, u_46⟩ := u
              obtain ⟨hP1, hD1⟩ := hB
              rw [ht] at hP1
              try dsimp only at hw_42
              obtain ⟨hP, hD⟩ := va_join (wr := []) (w1 := [(h0, .inr (3, [.ref of, .ref e1, .ref e2, .ref e3, .ref e4])), (of, .inr (2, [.ref g1, .ref g2, .ref g3, .ref g4, .ref g5, .int (nI on), .ref g6, .ref g7, .ref g8])), (g1, .inl (E.2.1 0, 7, .inl d1)), (g2, .inl (E.2.1 0, 7, .inl d2)), (g3, .inl (E.2.1 0, 7, .inl d3)), (g4, .inl (E.2.1 0, 7, .inl d4)), (g5, .inl (E.2.1 0, 7, .inl d5)), (g8, .inl (E.2.1 0, 100, .inl d8)), (e1, .inl (E.2.1 0, 512, .inl u_43)), (e2, .inl (E.2.1 0, 512, .inl u_44)), (e3, .inl (E.2.1 0, 896, .inl u_45)), (e4, .inl (E.2.1 0, 896, .inl u_46))]) hP hD [9, 4, 5, 0, 1, 2, 3, 6, 10, 11, 7, 8] [] rfl rfl (by decide) (by decide) hk1 hFc hP1 hD1
              generalize H1 = H at hP hS ⊢
              have hP : va_P E.1 vwCl [(h0, .inr (3, [.ref of, .ref e1, .ref e2, .ref e3, .ref e4])), (of, .inr (2, [.ref g1, .ref g2, .ref g3, .ref g4, .ref g5, .int (nI on), .ref g6, .ref g7, .ref g8])), (g1, .inl (E.2.1 0, 7, .inl d1)), (g2, .inl (E.2.1 0, 7, .inl d2)), (g3, .inl (E.2.1 0, 7, .inl d3)), (g4, .inl (E.2.1 0, 7, .inl d4)), (g5, .inl (E.2.1 0, 7, .inl d5)), (g8, .inl (E.2.1 0, 100, .inl d8)), (e1, .inl (E.2.1 0, 512, .inl u_43)), (e2, .inl (E.2.1 0, 512, .inl u_44)), (e3, .inl (E.2.1 0, 896, .inl u_45)), (e4, .inl (E.2.1 0, 896, .inl u_46))] H := hP
              have hD : va_D A [(h0, .inr (3, [.ref of, .ref e1, .ref e2, .ref e3, .ref e4])), (of, .inr (2, [.ref g1, .ref g2, .ref g3, .ref g4, .ref g5, .int (nI on), .ref g6, .ref g7, .ref g8])), (g1, .inl (E.2.1 0, 7, .inl d1)), (g2, .inl (E.2.1 0, 7, .inl d2)), (g3, .inl (E.2.1 0, 7, .inl d3)), (g4, .inl (E.2.1 0, 7, .inl d4)), (g5, .inl (E.2.1 0, 7, .inl d5)), (g8, .inl (E.2.1 0, 100, .inl d8)), (e1, .inl (E.2.1 0, 512, .inl u_43)), (e2, .inl (E.2.1 0, 512, .inl u_44)), (e3, .inl (E.2.1 0, 896, .inl u_45)), (e4, .inl (E.2.1 0, 896, .inl u_46))] := hD
              refine lv_iinc (v := (nI (k + 1))) (lv' := [(8, .int (nI (k + 1))), (12, .int (nI w_17)), (11, .int x_14), (10, .int x_11), (9, .int r_6), (0, .ref h0), (1, .int (nI cr)), (2, .int 1), (3, .int (nI se_)), (4, .int po_), (5, .int da), (6, .int co_), (7, .int or_)]) hx hb dX3_extend_179 hl (k := 12) rfl (show nI k + 1 = nI (k + 1) from nI_1 k) (by decide) rfl (fun ls hl => ?_)
              refine lv_goto (tgt := 10) hx hb dX3_extend_182 (by decide) ?_
              exact ih (k + 1) u_43 u_44 u_45 u_46 _ _ _ (by omega) (by omega) (hP.sub [0, 1, 2, 3, 4, 5, 6, 7, 8, 9, 10, 11] rfl) (hD.sub [0, 1, 2, 3, 4, 5, 6, 7, 8, 9, 10, 11] (by decide) rfl) hS (lv_sub hl [5, 6, 7, 8, 9, 10, 11, 12, 0] rfl)
        · refine lv_iconst (v := (-1)) hx hb dX3_extend_38 (by decide) ?_
          refine lv_goto (tgt := 55) hx hb dX3_extend_39 (by decide) ?_
          refine lv_istore (lv' := [(9, .int (-1)), (0, .ref h0), (1, .int (nI cr)), (2, .int 1), (3, .int (nI se_)), (4, .int po_), (5, .int da), (6, .int co_), (7, .int or_), (8, .int (nI k))]) hx hb dX3_extend_55 hl (by decide) rfl (fun ls hl => ?_)
          refine lv_iload hx hb dX3_extend_57 (lv_at hl 0 rfl) ?_
          refine lv_iconst (v := (-1)) hx hb dX3_extend_59 (by decide) ?_
          refine lv_icmp_eq (tgt := 179) hx hb dX3_extend_60 (by decide) (fun _ => ?_) (fun c9 => absurd c9 (by decide))
          refine lv_iinc (v := (nI (k + 1))) (lv' := [(8, .int (nI (k + 1))), (9, .int (-1)), (0, .ref h0), (1, .int (nI cr)), (2, .int 1), (3, .int (nI se_)), (4, .int po_), (5, .int da), (6, .int co_), (7, .int or_)]) hx hb dX3_extend_179 hl (k := 9) rfl (show nI k + 1 = nI (k + 1) from nI_1 k) (by decide) rfl (fun ls hl => ?_)
          refine lv_goto (tgt := 10) hx hb dX3_extend_182 (by decide) ?_
          exact ih (k + 1) c1 c2 c3 c4 _ _ _ (by omega) (by omega) (hP.sub [0, 1, 2, 3, 4, 5, 6, 7, 8, 9, 10, 11] rfl) (hD.sub [0, 1, 2, 3, 4, 5, 6, 7, 8, 9, 10, 11] (by decide) rfl) hS (lv_sub hl [2, 3, 4, 5, 6, 7, 8, 9, 0] rfl)
set_option maxHeartbeats 4000000 in
set_option maxRecDepth 100000 in
theorem c_X3_extend1 (l : Launch) (E : vE) (h0 : Nat) (of : Nat) (e1 : Nat) (e2 : Nat) (e3 : Nat) (e4 : Nat) (g1 : Nat) (g2 : Nat) (g3 : Nat) (g4 : Nat) (g5 : Nat) (g6 : Nat) (g7 : Nat) (g8 : Nat) (on : Nat) (d1 : Nat → Int32) (d2 : Nat → Int32) (d3 : Nat → Int32) (d4 : Nat → Int32) (d5 : Nat → Int32) (d8 : Nat → Int32) (cr : Nat) (se_ : Nat) (po_ : Int32) (da : Int32) (co_ : Int32) (or_ : Int32) (c1 : Nat → Int32) (c2 : Nat → Int32) (c3 : Nat → Int32) (c4 : Nat → Int32) (sz : Nat) (hcr : cr < 4) (hse : se_ < 128) (hd1 : ∀ k, k < 7 → inR (d1 k) 0 9 = true) : Met l yX3_extend wsX3_extend ({ frames := 9, cells := 0, slots := 0, locals := 260 }) (pcW E [.ref h0, .int (nI cr), .int 1, .int (nI se_), .int po_, .int da, .int co_, .int or_] sz [(h0, .inr (3, [.ref of, .ref e1, .ref e2, .ref e3, .ref e4])), (of, .inr (2, [.ref g1, .ref g2, .ref g3, .ref g4, .ref g5, .int (nI on), .ref g6, .ref g7, .ref g8])), (g1, .inl (E.2.1 0, 7, .inl d1)), (g2, .inl (E.2.1 0, 7, .inl d2)), (g3, .inl (E.2.1 0, 7, .inl d3)), (g4, .inl (E.2.1 0, 7, .inl d4)), (g5, .inl (E.2.1 0, 7, .inl d5)), (g8, .inl (E.2.1 0, 100, .inl d8)), (e1, .inl (E.2.1 0, 512, .inl c1)), (e2, .inl (E.2.1 0, 512, .inl c2)), (e3, .inl (E.2.1 0, 896, .inl c3)), (e4, .inl (E.2.1 0, 896, .inl c4))]) (va_Qv (fun (u : (Nat → Int32) × (Nat → Int32) × (Nat → Int32) × (Nat → Int32)) => match u with | (c12, c22, c32, c42) => True) (fun (u : (Nat → Int32) × (Nat → Int32) × (Nat → Int32) × (Nat → Int32)) (t : State) => match u with | (c12, c22, c32, c42) => wB E (va_A [(h0, .inr (3, [.ref of, .ref e1, .ref e2, .ref e3, .ref e4])), (of, .inr (2, [.ref g1, .ref g2, .ref g3, .ref g4, .ref g5, .int (nI on), .ref g6, .ref g7, .ref g8])), (g1, .inl (E.2.1 0, 7, .inl d1)), (g2, .inl (E.2.1 0, 7, .inl d2)), (g3, .inl (E.2.1 0, 7, .inl d3)), (g4, .inl (E.2.1 0, 7, .inl d4)), (g5, .inl (E.2.1 0, 7, .inl d5)), (g8, .inl (E.2.1 0, 100, .inl d8)), (e1, .inl (E.2.1 0, 512, .inl c1)), (e2, .inl (E.2.1 0, 512, .inl c2)), (e3, .inl (E.2.1 0, 896, .inl c3)), (e4, .inl (E.2.1 0, 896, .inl c4))] sz) [(h0, .inr (3, [.ref of, .ref e1, .ref e2, .ref e3, .ref e4])), (of, .inr (2, [.ref g1, .ref g2, .ref g3, .ref g4, .ref g5, .int (nI on), .ref g6, .ref g7, .ref g8])), (g1, .inl (E.2.1 0, 7, .inl d1)), (g2, .inl (E.2.1 0, 7, .inl d2)), (g3, .inl (E.2.1 0, 7, .inl d3)), (g4, .inl (E.2.1 0, 7, .inl d4)), (g5, .inl (E.2.1 0, 7, .inl d5)), (g8, .inl (E.2.1 0, 100, .inl d8)), (e1, .inl (E.2.1 0, 512, .inl c12)), (e2, .inl (E.2.1 0, 512, .inl c22)), (e3, .inl (E.2.1 0, 896, .inl c32)), (e4, .inl (E.2.1 0, 896, .inl c42))] t) (va_A [(h0, .inr (3, [.ref of, .ref e1, .ref e2, .ref e3, .ref e4])), (of, .inr (2, [.ref g1, .ref g2, .ref g3, .ref g4, .ref g5, .int (nI on), .ref g6, .ref g7, .ref g8])), (g1, .inl (E.2.1 0, 7, .inl d1)), (g2, .inl (E.2.1 0, 7, .inl d2)), (g3, .inl (E.2.1 0, 7, .inl d3)), (g4, .inl (E.2.1 0, 7, .inl d4)), (g5, .inl (E.2.1 0, 7, .inl d5)), (g8, .inl (E.2.1 0, 100, .inl d8)), (e1, .inl (E.2.1 0, 512, .inl c1)), (e2, .inl (E.2.1 0, 512, .inl c2)), (e3, .inl (E.2.1 0, 896, .inl c3)), (e4, .inl (E.2.1 0, 896, .inl c4))] sz)) 0 0 (va_A [(h0, .inr (3, [.ref of, .ref e1, .ref e2, .ref e3, .ref e4])), (of, .inr (2, [.ref g1, .ref g2, .ref g3, .ref g4, .ref g5, .int (nI on), .ref g6, .ref g7, .ref g8])), (g1, .inl (E.2.1 0, 7, .inl d1)), (g2, .inl (E.2.1 0, 7, .inl d2)), (g3, .inl (E.2.1 0, 7, .inl d3)), (g4, .inl (E.2.1 0, 7, .inl d4)), (g5, .inl (E.2.1 0, 7, .inl d5)), (g8, .inl (E.2.1 0, 100, .inl d8)), (e1, .inl (E.2.1 0, 512, .inl c1)), (e2, .inl (E.2.1 0, 512, .inl c2)), (e3, .inl (E.2.1 0, 896, .inl c3)), (e4, .inl (E.2.1 0, 896, .inl c4))] sz) := by
  refine Met.ofW (cc := cX3_extend) (maxL := 13) (ret := none) (by decide) rfl ?_
  intro p e s m args below meth c s₁ B hml hv
  obtain ⟨rfl, hsz, hP, hkn, hD0, hst⟩ := hv
  have hx := B.exec
  have hb := B.bytes
  have hr := B.returns
  have hts := atoms_spec (ws := wsX3_extend) B.pre
  have hown : s.vm.findClass RX3 = some m.cls := findClass_of_methodNamed B.named
  have hlocks := B.notSynchronized
  subst hsz
  have hD := hD0.self (sz := s.heap.size)
  have hK := hkn.1
  have hAO := hkn.2.2.1
  generalize hAe : va_A [(h0, .inr (3, [.ref of, .ref e1, .ref e2, .ref e3, .ref e4])), (of, .inr (2, [.ref g1, .ref g2, .ref g3, .ref g4, .ref g5, .int (nI on), .ref g6, .ref g7, .ref g8])), (g1, .inl (E.2.1 0, 7, .inl d1)), (g2, .inl (E.2.1 0, 7, .inl d2)), (g3, .inl (E.2.1 0, 7, .inl d3)), (g4, .inl (E.2.1 0, 7, .inl d4)), (g5, .inl (E.2.1 0, 7, .inl d5)), (g8, .inl (E.2.1 0, 100, .inl d8)), (e1, .inl (E.2.1 0, 512, .inl c1)), (e2, .inl (E.2.1 0, 512, .inl c2)), (e3, .inl (E.2.1 0, 896, .inl c3)), (e4, .inl (E.2.1 0, 896, .inl c4))] s.heap.size = A at hD hst ⊢
  have hA : ∀ q : Nat, s.heap.size ≤ q → A q := fun q h => by rw [← hAe]; exact Or.inr h
  have hS : va_S A s.heap s.heap [] := va_S.rf
  have hP : va_P E.1 vwCl [(h0, .inr (3, [.ref of, .ref e1, .ref e2, .ref e3, .ref e4])), (of, .inr (2, [.ref g1, .ref g2, .ref g3, .ref g4, .ref g5, .int (nI on), .ref g6, .ref g7, .ref g8])), (g1, .inl (E.2.1 0, 7, .inl d1)), (g2, .inl (E.2.1 0, 7, .inl d2)), (g3, .inl (E.2.1 0, 7, .inl d3)), (g4, .inl (E.2.1 0, 7, .inl d4)), (g5, .inl (E.2.1 0, 7, .inl d5)), (g8, .inl (E.2.1 0, 100, .inl d8)), (e1, .inl (E.2.1 0, 512, .inl c1)), (e2, .inl (E.2.1 0, 512, .inl c2)), (e3, .inl (E.2.1 0, 896, .inl c3)), (e4, .inl (E.2.1 0, 896, .inl c4))] s.heap := hP
  have hl := lv_entry ([.ref h0, .int (nI cr), .int 1, .int (nI se_), .int po_, .int da, .int co_, .int or_]) (n := 13) (Nat.le_of_ble_eq_true rfl)
  rw [lg_entry_eq]
  generalize (lg_sl ([.ref h0, .int (nI cr), .int 1, .int (nI se_), .int po_, .int da, .int co_, .int or_]) ++ List.replicate (13 - (lg_sl ([.ref h0, .int (nI cr), .int 1, .int (nI se_), .int po_, .int da, .int co_, .int or_])).length) Slot.unset).toArray = ls at hl ⊢
  have hl : lv_has ls 13 [(0, .ref h0), (1, .int (nI cr)), (2, .int 1), (3, .int (nI se_)), (4, .int po_), (5, .int da), (6, .int co_), (7, .int or_)] := hl
  have fl24 := hts (.fieldLink RX3 24 "BoatsHome$Orders" "offers" "LBoatsHome$Offers;") (by first | exact List.mem_of_getElem? (i := 1) rfl | decide +kernel)
  have fl47 := hts (.fieldLink RX3 47 "BoatsHome$Offers" "size" "I") (by first | exact List.mem_of_getElem? (i := 2) rfl | decide +kernel)
  have fl55 := hts (.fieldLink RX3 55 "BoatsHome$Offers" "days" "[I") (by first | exact List.mem_of_getElem? (i := 3) rfl | decide +kernel)
  have fl70 := hts (.fieldLink RX3 70 "BoatsHome$Offers" "to" "[I") (by first | exact List.mem_of_getElem? (i := 4) rfl | decide +kernel)
  have inX2 : ∀ w ∈ u_ws RX2 TX2 9, w ∈ wsX3_extend := by first | exact fun w h9 => (List.mem_cons_of_mem _ (List.mem_append_right _ h9)) | decide +kernel
  have inX3 : ∀ w ∈ u_ws RX3 TX3 5, w ∈ wsX3_extend := by first | exact fun w h9 => (List.mem_cons_of_mem _ (List.mem_append_left _ (List.mem_append_right _ h9))) | decide +kernel
  refine lv_iload_n hx hb dX3_extend_0 rfl (lv_at hl 2 rfl) ?_
  refine lv_bipush (v := 7) hx hb dX3_extend_1 (by decide) ?_
  refine lv_icmp_lt (tgt := 7) hx hb dX3_extend_3 (by decide) (fun _ => ?_) (fun c9 => absurd c9 (by decide))
  refine lv_iconst (v := 0) hx hb dX3_extend_7 (by decide) ?_
  refine lv_istore (lv' := [(8, .int 0), (0, .ref h0), (1, .int (nI cr)), (2, .int 1), (3, .int (nI se_)), (4, .int po_), (5, .int da), (6, .int co_), (7, .int or_)]) hx hb dX3_extend_8 hl (by decide) rfl (fun ls hl => ?_)
  have hPl := hP.sub (ws' := [(h0, .inr (3, [.ref of, .ref e1, .ref e2, .ref e3, .ref e4])), (of, .inr (2, [.ref g1, .ref g2, .ref g3, .ref g4, .ref g5, .int (nI on), .ref g6, .ref g7, .ref g8])), (g1, .inl (E.2.1 0, 7, .inl d1)), (g2, .inl (E.2.1 0, 7, .inl d2)), (g3, .inl (E.2.1 0, 7, .inl d3)), (g4, .inl (E.2.1 0, 7, .inl d4)), (g5, .inl (E.2.1 0, 7, .inl d5)), (g8, .inl (E.2.1 0, 100, .inl d8)), (e1, .inl (E.2.1 0, 512, .inl c1)), (e2, .inl (E.2.1 0, 512, .inl c2)), (e3, .inl (E.2.1 0, 896, .inl c3)), (e4, .inl (E.2.1 0, 896, .inl c4))]) [0, 1, 2, 3, 4, 5, 6, 7, 8, 9, 10, 11] rfl
  have hDl := hD.sub (ws' := [(h0, .inr (3, [.ref of, .ref e1, .ref e2, .ref e3, .ref e4])), (of, .inr (2, [.ref g1, .ref g2, .ref g3, .ref g4, .ref g5, .int (nI on), .ref g6, .ref g7, .ref g8])), (g1, .inl (E.2.1 0, 7, .inl d1)), (g2, .inl (E.2.1 0, 7, .inl d2)), (g3, .inl (E.2.1 0, 7, .inl d3)), (g4, .inl (E.2.1 0, 7, .inl d4)), (g5, .inl (E.2.1 0, 7, .inl d5)), (g8, .inl (E.2.1 0, 100, .inl d8)), (e1, .inl (E.2.1 0, 512, .inl c1)), (e2, .inl (E.2.1 0, 512, .inl c2)), (e3, .inl (E.2.1 0, 896, .inl c3)), (e4, .inl (E.2.1 0, 896, .inl c4))]) [0, 1, 2, 3, 4, 5, 6, 7, 8, 9, 10, 11] (by decide) rfl
  refine lg_extend1 E h0 of e1 e2 e3 e4 g1 g2 g3 g4 g5 g6 g7 g8 on d1 d2 d3 d4 d5 d8 cr se_ po_ da co_ or_ hx hb hml hown hts hkn hst hA hcr hse hd1 (fun n_1 n_2 n_3 n_4 H locs ls  hP hD hS hl => ?_) 8 0 c1 c2 c3 c4 _ _ _ (by omega) (by omega) hPl hDl hS (lv_sub hl [1, 2, 3, 4, 5, 6, 7, 8, 0] rfl)
  have hP : va_P E.1 vwCl [(h0, .inr (3, [.ref of, .ref e1, .ref e2, .ref e3, .ref e4])), (of, .inr (2, [.ref g1, .ref g2, .ref g3, .ref g4, .ref g5, .int (nI on), .ref g6, .ref g7, .ref g8])), (g1, .inl (E.2.1 0, 7, .inl d1)), (g2, .inl (E.2.1 0, 7, .inl d2)), (g3, .inl (E.2.1 0, 7, .inl d3)), (g4, .inl (E.2.1 0, 7, .inl d4)), (g5, .inl (E.2.1 0, 7, .inl d5)), (g8, .inl (E.2.1 0, 100, .inl d8)), (e1, .inl (E.2.1 0, 512, .inl n_1)), (e2, .inl (E.2.1 0, 512, .inl n_2)), (e3, .inl (E.2.1 0, 896, .inl n_3)), (e4, .inl (E.2.1 0, 896, .inl n_4))] H := hP
  have hD : va_D A [(h0, .inr (3, [.ref of, .ref e1, .ref e2, .ref e3, .ref e4])), (of, .inr (2, [.ref g1, .ref g2, .ref g3, .ref g4, .ref g5, .int (nI on), .ref g6, .ref g7, .ref g8])), (g1, .inl (E.2.1 0, 7, .inl d1)), (g2, .inl (E.2.1 0, 7, .inl d2)), (g3, .inl (E.2.1 0, 7, .inl d3)), (g4, .inl (E.2.1 0, 7, .inl d4)), (g5, .inl (E.2.1 0, 7, .inl d5)), (g8, .inl (E.2.1 0, 100, .inl d8)), (e1, .inl (E.2.1 0, 512, .inl n_1)), (e2, .inl (E.2.1 0, 512, .inl n_2)), (e3, .inl (E.2.1 0, 896, .inl n_3)), (e4, .inl (E.2.1 0, 896, .inl n_4))] := hD
  have hP9 := hP.sub (ws' := [(h0, .inr (3, [.ref of, .ref e1, .ref e2, .ref e3, .ref e4])), (of, .inr (2, [.ref g1, .ref g2, .ref g3, .ref g4, .ref g5, .int (nI on), .ref g6, .ref g7, .ref g8])), (g1, .inl (E.2.1 0, 7, .inl d1)), (g2, .inl (E.2.1 0, 7, .inl d2)), (g3, .inl (E.2.1 0, 7, .inl d3)), (g4, .inl (E.2.1 0, 7, .inl d4)), (g5, .inl (E.2.1 0, 7, .inl d5)), (g8, .inl (E.2.1 0, 100, .inl d8)), (e1, .inl (E.2.1 0, 512, .inl n_1)), (e2, .inl (E.2.1 0, 512, .inl n_2)), (e3, .inl (E.2.1 0, 896, .inl n_3)), (e4, .inl (E.2.1 0, 896, .inl n_4))]) [0, 1, 2, 3, 4, 5, 6, 7, 8, 9, 10, 11] rfl
  have hD9 := hD.sub (ws' := [(h0, .inr (3, [.ref of, .ref e1, .ref e2, .ref e3, .ref e4])), (of, .inr (2, [.ref g1, .ref g2, .ref g3, .ref g4, .ref g5, .int (nI on), .ref g6, .ref g7, .ref g8])), (g1, .inl (E.2.1 0, 7, .inl d1)), (g2, .inl (E.2.1 0, 7, .inl d2)), (g3, .inl (E.2.1 0, 7, .inl d3)), (g4, .inl (E.2.1 0, 7, .inl d4)), (g5, .inl (E.2.1 0, 7, .inl d5)), (g8, .inl (E.2.1 0, 100, .inl d8)), (e1, .inl (E.2.1 0, 512, .inl n_1)), (e2, .inl (E.2.1 0, 512, .inl n_2)), (e3, .inl (E.2.1 0, 896, .inl n_3)), (e4, .inl (E.2.1 0, 896, .inl n_4))]) [0, 1, 2, 3, 4, 5, 6, 7, 8, 9, 10, 11] (by decide) rfl
  exact W.vret hx hb hr (fun t ht hW => ⟨⟨(n_1, n_2, n_3, n_4), rfl, trivial, by rw [ht]; exact hP9, hD9⟩, hS.F ht⟩) hS.2.2 dX3_extend_185
set_option maxHeartbeats 4000000 in
set_option maxRecDepth 100000 in
theorem lg_extend0 {p : Program} {l : Launch} {e : Env} {s : State} {m : MethodId} {args : Array Value} {below : List Frame} {meth : Method} {c : Code} {Q : State → Prop} {A : Nat → Prop} (E : vE) (h0 : Nat) (of : Nat) (e1 : Nat) (e2 : Nat) (e3 : Nat) (e4 : Nat) (g1 : Nat) (g2 : Nat) (g3 : Nat) (g4 : Nat) (g5 : Nat) (g6 : Nat) (g7 : Nat) (g8 : Nat) (on : Nat) (d1 : Nat → Int32) (d2 : Nat → Int32) (d3 : Nat → Int32) (d4 : Nat → Int32) (d5 : Nat → Int32) (d8 : Nat → Int32) (cr : Nat) (se_ : Nat) (po_ : Int32) (da : Int32) (co_ : Int32) (or_ : Int32) (hx : p.tables.exec = Jvm.exec) (hb : c.code = cX3_extend) (hml : c.maxLocals = 13) (hown : s.vm.findClass RX3 = some m.cls) (hts : ∀ w ∈ wsX3_extend, w.before args s = true) (hkn : kn E s) (hst : st E A s s.heap) (hA : ∀ q : Nat, s.heap.size ≤ q → A q) (hcr : cr < 4) (hse : se_ < 128) (hd1 : ∀ k, k < 7 → inR (d1 k) 0 9 = true) (kk : ∀ (c1 : Nat → Int32) (c2 : Nat → Int32) (c3 : Nat → Int32) (c4 : Nat → Int32) (H : Heap) (locs : List Loc) (ls : Array Slot), va_P E.1 vwCl [(h0, .inr (3, [.ref of, .ref e1, .ref e2, .ref e3, .ref e4])), (of, .inr (2, [.ref g1, .ref g2, .ref g3, .ref g4, .ref g5, .int (nI on), .ref g6, .ref g7, .ref g8])), (g1, .inl (E.2.1 0, 7, .inl d1)), (g2, .inl (E.2.1 0, 7, .inl d2)), (g3, .inl (E.2.1 0, 7, .inl d3)), (g4, .inl (E.2.1 0, 7, .inl d4)), (g5, .inl (E.2.1 0, 7, .inl d5)), (g8, .inl (E.2.1 0, 100, .inl d8)), (e1, .inl (E.2.1 0, 512, .inl c1)), (e2, .inl (E.2.1 0, 512, .inl c2)), (e3, .inl (E.2.1 0, 896, .inl c3)), (e4, .inl (E.2.1 0, 896, .inl c4))] H → va_D A [(h0, .inr (3, [.ref of, .ref e1, .ref e2, .ref e3, .ref e4])), (of, .inr (2, [.ref g1, .ref g2, .ref g3, .ref g4, .ref g5, .int (nI on), .ref g6, .ref g7, .ref g8])), (g1, .inl (E.2.1 0, 7, .inl d1)), (g2, .inl (E.2.1 0, 7, .inl d2)), (g3, .inl (E.2.1 0, 7, .inl d3)), (g4, .inl (E.2.1 0, 7, .inl d4)), (g5, .inl (E.2.1 0, 7, .inl d5)), (g8, .inl (E.2.1 0, 100, .inl d8)), (e1, .inl (E.2.1 0, 512, .inl c1)), (e2, .inl (E.2.1 0, 512, .inl c2)), (e3, .inl (E.2.1 0, 896, .inl c3)), (e4, .inl (E.2.1 0, 896, .inl c4))] → va_S A s.heap H locs → lv_has ls 13 [(0, .ref h0)] → W p l e ({ frames := 10, cells := 0, slots := 0, locals := 292 }) s m args below meth c H locs 0 0 Q (F0 m 185 ls [])) : ∀ (n0 : Nat) (k : Nat) (c1 : Nat → Int32) (c2 : Nat → Int32) (c3 : Nat → Int32) (c4 : Nat → Int32) (H : Heap) (locs : List Loc) (ls : Array Slot), 7 - k < n0 → (k ≤ 7) → va_P E.1 vwCl [(h0, .inr (3, [.ref of, .ref e1, .ref e2, .ref e3, .ref e4])), (of, .inr (2, [.ref g1, .ref g2, .ref g3, .ref g4, .ref g5, .int (nI on), .ref g6, .ref g7, .ref g8])), (g1, .inl (E.2.1 0, 7, .inl d1)), (g2, .inl (E.2.1 0, 7, .inl d2)), (g3, .inl (E.2.1 0, 7, .inl d3)), (g4, .inl (E.2.1 0, 7, .inl d4)), (g5, .inl (E.2.1 0, 7, .inl d5)), (g8, .inl (E.2.1 0, 100, .inl d8)), (e1, .inl (E.2.1 0, 512, .inl c1)), (e2, .inl (E.2.1 0, 512, .inl c2)), (e3, .inl (E.2.1 0, 896, .inl c3)), (e4, .inl (E.2.1 0, 896, .inl c4))] H → va_D A [(h0, .inr (3, [.ref of, .ref e1, .ref e2, .ref e3, .ref e4])), (of, .inr (2, [.ref g1, .ref g2, .ref g3, .ref g4, .ref g5, .int (nI on), .ref g6, .ref g7, .ref g8])), (g1, .inl (E.2.1 0, 7, .inl d1)), (g2, .inl (E.2.1 0, 7, .inl d2)), (g3, .inl (E.2.1 0, 7, .inl d3)), (g4, .inl (E.2.1 0, 7, .inl d4)), (g5, .inl (E.2.1 0, 7, .inl d5)), (g8, .inl (E.2.1 0, 100, .inl d8)), (e1, .inl (E.2.1 0, 512, .inl c1)), (e2, .inl (E.2.1 0, 512, .inl c2)), (e3, .inl (E.2.1 0, 896, .inl c3)), (e4, .inl (E.2.1 0, 896, .inl c4))] → va_S A s.heap H locs → lv_has ls 13 [(0, .ref h0), (1, .int (nI cr)), (2, .int 0), (3, .int (nI se_)), (4, .int po_), (5, .int da), (6, .int co_), (7, .int or_), (8, .int (nI k))] → W p l e ({ frames := 10, cells := 0, slots := 0, locals := 292 }) s m args below meth c H locs 0 0 Q (F0 m 10 ls []) := by
  have hK := hkn.1
  have hAO := hkn.2.2.1
  have fl24 := hts (.fieldLink RX3 24 "BoatsHome$Orders" "offers" "LBoatsHome$Offers;") (by first | exact List.mem_of_getElem? (i := 1) rfl | decide +kernel)
  have fl47 := hts (.fieldLink RX3 47 "BoatsHome$Offers" "size" "I") (by first | exact List.mem_of_getElem? (i := 2) rfl | decide +kernel)
  have fl55 := hts (.fieldLink RX3 55 "BoatsHome$Offers" "days" "[I") (by first | exact List.mem_of_getElem? (i := 3) rfl | decide +kernel)
  have fl70 := hts (.fieldLink RX3 70 "BoatsHome$Offers" "to" "[I") (by first | exact List.mem_of_getElem? (i := 4) rfl | decide +kernel)
  have inX2 : ∀ w ∈ u_ws RX2 TX2 9, w ∈ wsX3_extend := by first | exact fun w h9 => (List.mem_cons_of_mem _ (List.mem_append_right _ h9)) | decide +kernel
  have inX3 : ∀ w ∈ u_ws RX3 TX3 5, w ∈ wsX3_extend := by first | exact fun w h9 => (List.mem_cons_of_mem _ (List.mem_append_left _ (List.mem_append_right _ h9))) | decide +kernel
  intro n0
  induction n0 with
  | zero =>
    intro k c1 c2 c3 c4 H locs ls hn0
    exact absurd hn0 (Nat.not_lt_zero _)
  | succ n0 ih =>
    intro k c1 c2 c3 c4 H locs ls hn0 hk hP hD hS hl
    refine lv_iload hx hb dX3_extend_10 (lv_at hl 8 rfl) ?_
    refine lv_aload_n hx hb dX3_extend_12 rfl (lv_at hl 0 rfl) ?_
    refine va_get (D := E.1) (ci := 3) (v := .ref of) (C := RX3) (T := TX3) (N := 5) hx hb hts inX3 hown hK hP 0 rfl rfl 0 (by decide) fl24 (fun _ h9 => h9) rfl dX3_extend_13 ?_
    refine va_get (D := E.1) (ci := 2) (v := .int (nI on)) (C := RX2) (T := TX2) (N := 9) hx hb hts inX2 hown hK hP 1 rfl rfl 5 (by decide) fl47 (fun _ h9 => h9) rfl dX3_extend_16 ?_
    refine lv_icmp_ge (tgt := 185) hx hb dX3_extend_19 (by decide) (fun c_1 => ?_) (fun c_1 => ?_)
    · exact kk c1 c2 c3 c4 _ _ _  (hP.sub [0, 1, 2, 3, 4, 5, 6, 7, 8, 9, 10, 11] rfl) (hD.sub [0, 1, 2, 3, 4, 5, 6, 7, 8, 9, 10, 11] (by decide) rfl) hS (lv_sub hl [0] rfl)
    · refine lv_iload hx hb dX3_extend_22 (lv_at hl 8 rfl) ?_
      refine lv_bipush (v := 7) hx hb dX3_extend_24 (by decide) ?_
      refine lv_icmp_ge (tgt := 185) hx hb dX3_extend_26 (by decide) (fun c_2 => ?_) (fun c_2 => ?_)
      · exact kk c1 c2 c3 c4 _ _ _  (hP.sub [0, 1, 2, 3, 4, 5, 6, 7, 8, 9, 10, 11] rfl) (hD.sub [0, 1, 2, 3, 4, 5, 6, 7, 8, 9, 10, 11] (by decide) rfl) hS (lv_sub hl [0] rfl)
      · have hlt : k < 7 := by
          rcases Nat.lt_or_ge k 7 with q | q
          · exact q
          · exact absurd (show (7 : Int32) ≤ nI k from nI_le (a := 7) q (by omega)) c_2
        refine lv_iload_n hx hb dX3_extend_29 rfl (lv_at hl 3 rfl) ?_
        refine lv_iload hx hb dX3_extend_30 (lv_at hl 8 rfl) ?_
        refine lv_ishr hx hb dX3_extend_32 ?_
        refine lv_topi (fun x_3 ex_3 => ?_)
        refine lv_iconst (v := 1) hx hb dX3_extend_33 (by decide) ?_
        refine lv_iand hx hb dX3_extend_34 ?_
        refine lv_topi (fun x_4 ex_4 => ?_)
        refine lv_if_eq (tgt := 42) hx hb dX3_extend_35 (by decide) (fun c_5 => ?_) (fun c_5 => ?_)
        · refine lv_aload_n hx hb dX3_extend_42 rfl (lv_at hl 0 rfl) ?_
          refine va_get (D := E.1) (ci := 3) (v := .ref of) (C := RX3) (T := TX3) (N := 5) hx hb hts inX3 hown hK hP 0 rfl rfl 0 (by decide) fl24 (fun _ h9 => h9) rfl dX3_extend_43 ?_
          refine lv_iload hx hb dX3_extend_46 (lv_at hl 8 rfl) ?_
          refine lv_iload hx hb dX3_extend_48 (lv_at hl 4 rfl) ?_
          refine lv_iload hx hb dX3_extend_50 (lv_at hl 5 rfl) ?_
          have hPc := hP.sub (ws' := [(of, .inr (2, [.ref g1, .ref g2, .ref g3, .ref g4, .ref g5, .int (nI on), .ref g6, .ref g7, .ref g8])), (g1, .inl (E.2.1 0, 7, .inl d1)), (g4, .inl (E.2.1 0, 7, .inl d4)), (g5, .inl (E.2.1 0, 7, .inl d5)), (g8, .inl (E.2.1 0, 100, .inl d8))]) [1, 2, 5, 6, 7] rfl
          have hDc := hD.sub (ws' := [(of, .inr (2, [.ref g1, .ref g2, .ref g3, .ref g4, .ref g5, .int (nI on), .ref g6, .ref g7, .ref g8])), (g1, .inl (E.2.1 0, 7, .inl d1)), (g4, .inl (E.2.1 0, 7, .inl d4)), (g5, .inl (E.2.1 0, 7, .inl d5)), (g8, .inl (E.2.1 0, 100, .inl d8))]) [1, 2, 5, 6, 7] (by decide) rfl
          have hFc := va_free (wc := [(of, .inr (2, [.ref g1, .ref g2, .ref g3, .ref g4, .ref g5, .int (nI on), .ref g6, .ref g7, .ref g8])), (g1, .inl (E.2.1 0, 7, .inl d1)), (g4, .inl (E.2.1 0, 7, .inl d4)), (g5, .inl (E.2.1 0, 7, .inl d5)), (g8, .inl (E.2.1 0, 100, .inl d8))]) hD hS hA [1, 2, 5, 6, 7] rfl
          refine va_calli (va_runV (As := [.int (nI k), .int po_, .int da]) (rest := []) ⟨hx, hb, hml, hown, hts⟩ (c_X2_startOf l E of g1 g2 g3 g4 g5 g6 g7 g8 on d1 d4 d5 d8 k po_ da H.size hlt hd1) (cwV 3 hts gX3_extend_X2_startOf rfl rfl rfl hdV_X2_startOf ⟨Nat.le_of_ble_eq_true rfl, Nat.le_of_ble_eq_true rfl⟩) ⟨pcW_blind, va_recv hK hPc (ci := 2) (q0 := 0) rfl rfl, (pcW_pre hPc hkn hDc hst hS hFc)⟩ rfl rfl hl.1 rfl (lv_room (Nat.le_of_ble_eq_true rfl)) dX3_extend_52 ⟨Nat.le_of_ble_eq_true rfl, Nat.le_of_ble_eq_true rfl⟩) hS (fun q _ h => hFc q h) hFc (fun r_6 u t H1 locs ht hvm hw_7 hB hz1 hk1 hS => ?_)
          obtain ⟨hP1, hD1⟩ := hB
          rw [ht] at hP1
          try dsimp only at hw_7
          obtain ⟨hP, hD⟩ := va_join (wr := [(h0, .inr (3, [.ref of, .ref e1, .ref e2, .ref e3, .ref e4])), (g2, .inl (E.2.1 0, 7, .inl d2)), (g3, .inl (E.2.1 0, 7, .inl d3)), (e1, .inl (E.2.1 0, 512, .inl c1)), (e2, .inl (E.2.1 0, 512, .inl c2)), (e3, .inl (E.2.1 0, 896, .inl c3)), (e4, .inl (E.2.1 0, 896, .inl c4))]) (w1 := [(of, .inr (2, [.ref g1, .ref g2, .ref g3, .ref g4, .ref g5, .int (nI on), .ref g6, .ref g7, .ref g8])), (g1, .inl (E.2.1 0, 7, .inl d1)), (g4, .inl (E.2.1 0, 7, .inl d4)), (g5, .inl (E.2.1 0, 7, .inl d5)), (g8, .inl (E.2.1 0, 100, .inl d8))]) hP hD [1, 2, 5, 6, 7] [0, 3, 4, 8, 9, 10, 11] rfl rfl (by decide) (by decide) hk1 hFc hP1 hD1
          generalize H1 = H at hP hS ⊢
          have hP : va_P E.1 vwCl [(h0, .inr (3, [.ref of, .ref e1, .ref e2, .ref e3, .ref e4])), (g2, .inl (E.2.1 0, 7, .inl d2)), (g3, .inl (E.2.1 0, 7, .inl d3)), (e1, .inl (E.2.1 0, 512, .inl c1)), (e2, .inl (E.2.1 0, 512, .inl c2)), (e3, .inl (E.2.1 0, 896, .inl c3)), (e4, .inl (E.2.1 0, 896, .inl c4)), (of, .inr (2, [.ref g1, .ref g2, .ref g3, .ref g4, .ref g5, .int (nI on), .ref g6, .ref g7, .ref g8])), (g1, .inl (E.2.1 0, 7, .inl d1)), (g4, .inl (E.2.1 0, 7, .inl d4)), (g5, .inl (E.2.1 0, 7, .inl d5)), (g8, .inl (E.2.1 0, 100, .inl d8))] H := hP
          have hD : va_D A [(h0, .inr (3, [.ref of, .ref e1, .ref e2, .ref e3, .ref e4])), (g2, .inl (E.2.1 0, 7, .inl d2)), (g3, .inl (E.2.1 0, 7, .inl d3)), (e1, .inl (E.2.1 0, 512, .inl c1)), (e2, .inl (E.2.1 0, 512, .inl c2)), (e3, .inl (E.2.1 0, 896, .inl c3)), (e4, .inl (E.2.1 0, 896, .inl c4)), (of, .inr (2, [.ref g1, .ref g2, .ref g3, .ref g4, .ref g5, .int (nI on), .ref g6, .ref g7, .ref g8])), (g1, .inl (E.2.1 0, 7, .inl d1)), (g4, .inl (E.2.1 0, 7, .inl d4)), (g5, .inl (E.2.1 0, 7, .inl d5)), (g8, .inl (E.2.1 0, 100, .inl d8))] := hD
          refine lv_istore (lv' := [(9, .int r_6), (0, .ref h0), (1, .int (nI cr)), (2, .int 0), (3, .int (nI se_)), (4, .int po_), (5, .int da), (6, .int co_), (7, .int or_), (8, .int (nI k))]) hx hb dX3_extend_55 hl (by decide) rfl (fun ls hl => ?_)
          refine lv_iload hx hb dX3_extend_57 (lv_at hl 0 rfl) ?_
          refine lv_iconst (v := (-1)) hx hb dX3_extend_59 (by decide) ?_
          refine lv_icmp_eq (tgt := 179) hx hb dX3_extend_60 (by decide) (fun c_8 => ?_) (fun c_8 => ?_)
          · refine lv_iinc (v := (nI (k + 1))) (lv' := [(8, .int (nI (k + 1))), (9, .int r_6), (0, .ref h0), (1, .int (nI cr)), (2, .int 0), (3, .int (nI se_)), (4, .int po_), (5, .int da), (6, .int co_), (7, .int or_)]) hx hb dX3_extend_179 hl (k := 9) rfl (show nI k + 1 = nI (k + 1) from nI_1 k) (by decide) rfl (fun ls hl => ?_)
            refine lv_goto (tgt := 10) hx hb dX3_extend_182 (by decide) ?_
            exact ih (k + 1) c1 c2 c3 c4 _ _ _ (by omega) (by omega) (hP.sub [0, 7, 8, 1, 2, 9, 10, 11, 3, 4, 5, 6] rfl) (hD.sub [0, 7, 8, 1, 2, 9, 10, 11, 3, 4, 5, 6] (by decide) rfl) hS (lv_sub hl [2, 3, 4, 5, 6, 7, 8, 9, 0] rfl)
          · refine lv_iload hx hb dX3_extend_63 (lv_at hl 0 rfl) ?_
            refine lv_aload_n hx hb dX3_extend_65 rfl (lv_at hl 1 rfl) ?_
            refine va_get (D := E.1) (ci := 3) (v := .ref of) (C := RX3) (T := TX3) (N := 5) hx hb hts inX3 hown hK hP 0 rfl rfl 0 (by decide) fl24 (fun _ h9 => h9) rfl dX3_extend_66 ?_
            refine va_get (D := E.1) (ci := 2) (v := .ref g3) (C := RX2) (T := TX2) (N := 9) hx hb hts inX2 hown hK hP 7 rfl rfl 2 (by decide) fl55 (fun _ h9 => h9) rfl dX3_extend_69 ?_
            refine lv_iload hx hb dX3_extend_72 (lv_at hl 9 rfl) ?_
            have hi_9 : vp_in (nI k) 7 := vp_in_nI hlt (by decide)
            refine va_iald hx hb hK hP 2 0 rfl rfl hi_9 dX3_extend_74 ?_
            refine lv_topi (fun x_10 ex_10 => ?_)
            refine lv_iadd hx hb dX3_extend_75 ?_
            refine lv_topi (fun x_11 ex_11 => ?_)
            refine lv_istore (lv' := [(10, .int x_11), (9, .int r_6), (0, .ref h0), (1, .int (nI cr)), (2, .int 0), (3, .int (nI se_)), (4, .int po_), (5, .int da), (6, .int co_), (7, .int or_), (8, .int (nI k))]) hx hb dX3_extend_76 hl (by decide) rfl (fun ls hl => ?_)
            refine lv_iload hx hb dX3_extend_78 (lv_at hl 8 rfl) ?_
            refine lv_aload_n hx hb dX3_extend_80 rfl (lv_at hl 2 rfl) ?_
            refine va_get (D := E.1) (ci := 3) (v := .ref of) (C := RX3) (T := TX3) (N := 5) hx hb hts inX3 hown hK hP 0 rfl rfl 0 (by decide) fl24 (fun _ h9 => h9) rfl dX3_extend_81 ?_
            refine lv_iload hx hb dX3_extend_84 (lv_at hl 10 rfl) ?_
            refine lv_iload hx hb dX3_extend_86 (lv_at hl 6 rfl) ?_
            have hPc := hP.sub (ws' := [(of, .inr (2, [.ref g1, .ref g2, .ref g3, .ref g4, .ref g5, .int (nI on), .ref g6, .ref g7, .ref g8])), (g1, .inl (E.2.1 0, 7, .inl d1)), (g8, .inl (E.2.1 0, 100, .inl d8))]) [7, 8, 11] rfl
            have hDc := hD.sub (ws' := [(of, .inr (2, [.ref g1, .ref g2, .ref g3, .ref g4, .ref g5, .int (nI on), .ref g6, .ref g7, .ref g8])), (g1, .inl (E.2.1 0, 7, .inl d1)), (g8, .inl (E.2.1 0, 100, .inl d8))]) [7, 8, 11] (by decide) rfl
            have hFc := va_free (wc := [(of, .inr (2, [.ref g1, .ref g2, .ref g3, .ref g4, .ref g5, .int (nI on), .ref g6, .ref g7, .ref g8])), (g1, .inl (E.2.1 0, 7, .inl d1)), (g8, .inl (E.2.1 0, 100, .inl d8))]) hD hS hA [7, 8, 11] rfl
            refine va_calli (va_runV (As := [.int (nI k), .int po_]) (rest := [.int co_]) ⟨hx, hb, hml, hown, hts⟩ (c_X2_fareTo l E of g1 g2 g3 g4 g5 g6 g7 g8 on d1 d8 k po_ H.size hlt hd1) (cwV 2 hts gX3_extend_X2_fareTo rfl rfl rfl hdV_X2_fareTo ⟨Nat.le_of_ble_eq_true rfl, Nat.le_of_ble_eq_true rfl⟩) ⟨pcW_blind, va_recv hK hPc (ci := 2) (q0 := 0) rfl rfl, (pcW_pre hPc hkn hDc hst hS hFc)⟩ rfl rfl hl.1 rfl (lv_room (Nat.le_of_ble_eq_true rfl)) dX3_extend_88 ⟨Nat.le_of_ble_eq_true rfl, Nat.le_of_ble_eq_true rfl⟩) hS (fun q _ h => hFc q h) hFc (fun r_12 u t H1 locs ht hvm hw_13 hB hz1 hk1 hS => ?_)
            obtain ⟨hP1, hD1⟩ := hB
            rw [ht] at hP1
            try dsimp only at hw_13
            obtain ⟨hP, hD⟩ := va_join (wr := [(h0, .inr (3, [.ref of, .ref e1, .ref e2, .ref e3, .ref e4])), (g2, .inl (E.2.1 0, 7, .inl d2)), (g3, .inl (E.2.1 0, 7, .inl d3)), (e1, .inl (E.2.1 0, 512, .inl c1)), (e2, .inl (E.2.1 0, 512, .inl c2)), (e3, .inl (E.2.1 0, 896, .inl c3)), (e4, .inl (E.2.1 0, 896, .inl c4)), (g4, .inl (E.2.1 0, 7, .inl d4)), (g5, .inl (E.2.1 0, 7, .inl d5))]) (w1 := [(of, .inr (2, [.ref g1, .ref g2, .ref g3, .ref g4, .ref g5, .int (nI on), .ref g6, .ref g7, .ref g8])), (g1, .inl (E.2.1 0, 7, .inl d1)), (g8, .inl (E.2.1 0, 100, .inl d8))]) hP hD [7, 8, 11] [0, 1, 2, 3, 4, 5, 6, 9, 10] rfl rfl (by decide) (by decide) hk1 hFc hP1 hD1
            generalize H1 = H at hP hS ⊢
            have hP : va_P E.1 vwCl [(h0, .inr (3, [.ref of, .ref e1, .ref e2, .ref e3, .ref e4])), (g2, .inl (E.2.1 0, 7, .inl d2)), (g3, .inl (E.2.1 0, 7, .inl d3)), (e1, .inl (E.2.1 0, 512, .inl c1)), (e2, .inl (E.2.1 0, 512, .inl c2)), (e3, .inl (E.2.1 0, 896, .inl c3)), (e4, .inl (E.2.1 0, 896, .inl c4)), (g4, .inl (E.2.1 0, 7, .inl d4)), (g5, .inl (E.2.1 0, 7, .inl d5)), (of, .inr (2, [.ref g1, .ref g2, .ref g3, .ref g4, .ref g5, .int (nI on), .ref g6, .ref g7, .ref g8])), (g1, .inl (E.2.1 0, 7, .inl d1)), (g8, .inl (E.2.1 0, 100, .inl d8))] H := hP
            have hD : va_D A [(h0, .inr (3, [.ref of, .ref e1, .ref e2, .ref e3, .ref e4])), (g2, .inl (E.2.1 0, 7, .inl d2)), (g3, .inl (E.2.1 0, 7, .inl d3)), (e1, .inl (E.2.1 0, 512, .inl c1)), (e2, .inl (E.2.1 0, 512, .inl c2)), (e3, .inl (E.2.1 0, 896, .inl c3)), (e4, .inl (E.2.1 0, 896, .inl c4)), (g4, .inl (E.2.1 0, 7, .inl d4)), (g5, .inl (E.2.1 0, 7, .inl d5)), (of, .inr (2, [.ref g1, .ref g2, .ref g3, .ref g4, .ref g5, .int (nI on), .ref g6, .ref g7, .ref g8])), (g1, .inl (E.2.1 0, 7, .inl d1)), (g8, .inl (E.2.1 0, 100, .inl d8))] := hD
            refine lv_iadd hx hb dX3_extend_91 ?_
            refine lv_topi (fun x_14 ex_14 => ?_)
            refine lv_istore (lv' := [(11, .int x_14), (10, .int x_11), (9, .int r_6), (0, .ref h0), (1, .int (nI cr)), (2, .int 0), (3, .int (nI se_)), (4, .int po_), (5, .int da), (6, .int co_), (7, .int or_), (8, .int (nI k))]) hx hb dX3_extend_92 hl (by decide) rfl (fun ls hl => ?_)
            refine lv_iload_n hx hb dX3_extend_94 rfl (lv_at hl 6 rfl) ?_
            refine lv_iconst (v := 1) hx hb dX3_extend_95 (by decide) ?_
            refine lv_iload hx hb dX3_extend_96 (lv_at hl 11 rfl) ?_
            refine lv_ishl hx hb dX3_extend_98 ?_
            refine lv_topi (fun x_15 ex_15 => ?_)
            refine lv_ior hx hb dX3_extend_99 ?_
            refine lv_topi (fun x_16 ex_16 => ?_)
            obtain ⟨w_17, hwd_18, ew_19⟩ : ∃ w, w < 128 ∧ x_16 = nI w := by rw [ex_16, ex_15]; exact or_bit hse hlt
            subst ew_19
            refine lv_istore (lv' := [(12, .int (nI w_17)), (11, .int x_14), (10, .int x_11), (9, .int r_6), (0, .ref h0), (1, .int (nI cr)), (2, .int 0), (3, .int (nI se_)), (4, .int po_), (5, .int da), (6, .int co_), (7, .int or_), (8, .int (nI k))]) hx hb dX3_extend_100 hl (by decide) rfl (fun ls hl => ?_)
            refine lv_aload_n hx hb dX3_extend_102 rfl (lv_at hl 4 rfl) ?_
            refine lv_iload hx hb dX3_extend_103 (lv_at hl 0 rfl) ?_
            refine lv_bipush (v := 7) hx hb dX3_extend_105 (by decide) ?_
            refine lv_imul hx hb dX3_extend_107 ?_
            refine lv_topi (fun x_20 ex_20 => ?_)
            obtain rfl : x_20 = nI (w_17 * 7) := ex_20.trans (pk_mul w_17 7)
            refine lv_iload hx hb dX3_extend_108 (lv_at hl 12 rfl) ?_
            refine lv_iadd hx hb dX3_extend_110 ?_
            refine lv_topi (fun x_21 ex_21 => ?_)
            obtain rfl : x_21 = nI ((w_17 * 7) + k) := ex_21.trans (nI_add (w_17 * 7) k)
            refine lv_iload hx hb dX3_extend_111 (lv_at hl 2 rfl) ?_
            refine lv_iload hx hb dX3_extend_113 (lv_at hl 1 rfl) ?_
            have hPc := hP.sub (ws' := [(h0, .inr (3, [.ref of, .ref e1, .ref e2, .ref e3, .ref e4])), (e3, .inl (E.2.1 0, 896, .inl c3)), (e4, .inl (E.2.1 0, 896, .inl c4))]) [0, 5, 6] rfl
            have hDc := hD.sub (ws' := [(h0, .inr (3, [.ref of, .ref e1, .ref e2, .ref e3, .ref e4])), (e3, .inl (E.2.1 0, 896, .inl c3)), (e4, .inl (E.2.1 0, 896, .inl c4))]) [0, 5, 6] (by decide) rfl
            have hFc := va_free (wc := [(h0, .inr (3, [.ref of, .ref e1, .ref e2, .ref e3, .ref e4])), (e3, .inl (E.2.1 0, 896, .inl c3)), (e4, .inl (E.2.1 0, 896, .inl c4))]) hD hS hA [0, 5, 6] rfl
            refine va_calli (va_runV (As := [.int (nI ((w_17 * 7) + k)), .int x_11, .int x_14]) (rest := []) ⟨hx, hb, hml, hown, hts⟩ (c_X3_outdone l E h0 of e1 e2 e3 e4 ((w_17 * 7) + k) x_11 x_14 c3 c4 H.size (by omega)) (cwV 3 hts gX3_extend_X3_outdone rfl rfl rfl hdV_X3_outdone ⟨Nat.le_of_ble_eq_true rfl, Nat.le_of_ble_eq_true rfl⟩) ⟨pcW_blind, va_recv hK hPc (ci := 3) (q0 := 0) rfl rfl, (pcW_pre hPc hkn hDc hst hS hFc)⟩ rfl rfl hl.1 rfl (lv_room (Nat.le_of_ble_eq_true rfl)) dX3_extend_115 ⟨Nat.le_of_ble_eq_true rfl, Nat.le_of_ble_eq_true rfl⟩) hS (fun q _ h => hFc q h) hFc (fun r_22 u t H1 locs ht hvm hw_23 hB hz1 hk1 hS => ?_)
            obtain ⟨u_24, u_25⟩ := u
            obtain ⟨hP1, hD1⟩ := hB
            rw [ht] at hP1
            try dsimp only at hw_23
            obtain ⟨hP, hD⟩ := va_join (wr := [(g2, .inl (E.2.1 0, 7, .inl d2)), (g3, .inl (E.2.1 0, 7, .inl d3)), (e1, .inl (E.2.1 0, 512, .inl c1)), (e2, .inl (E.2.1 0, 512, .inl c2)), (g4, .inl (E.2.1 0, 7, .inl d4)), (g5, .inl (E.2.1 0, 7, .inl d5)), (of, .inr (2, [.ref g1, .ref g2, .ref g3, .ref g4, .ref g5, .int (nI on), .ref g6, .ref g7, .ref g8])), (g1, .inl (E.2.1 0, 7, .inl d1)), (g8, .inl (E.2.1 0, 100, .inl d8))]) (w1 := [(h0, .inr (3, [.ref of, .ref e1, .ref e2, .ref e3, .ref e4])), (e3, .inl (E.2.1 0, 896, .inl u_24)), (e4, .inl (E.2.1 0, 896, .inl u_25))]) hP hD [0, 5, 6] [1, 2, 3, 4, 7, 8, 9, 10, 11] rfl rfl (by decide) (by decide) hk1 hFc hP1 hD1
            generalize H1 = H at hP hS ⊢
            have hP : va_P E.1 vwCl [(g2, .inl (E.2.1 0, 7, .inl d2)), (g3, .inl (E.2.1 0, 7, .inl d3)), (e1, .inl (E.2.1 0, 512, .inl c1)), (e2, .inl (E.2.1 0, 512, .inl c2)), (g4, .inl (E.2.1 0, 7, .inl d4)), (g5, .inl (E.2.1 0, 7, .inl d5)), (of, .inr (2, [.ref g1, .ref g2, .ref g3, .ref g4, .ref g5, .int (nI on), .ref g6, .ref g7, .ref g8])), (g1, .inl (E.2.1 0, 7, .inl d1)), (g8, .inl (E.2.1 0, 100, .inl d8)), (h0, .inr (3, [.ref of, .ref e1, .ref e2, .ref e3, .ref e4])), (e3, .inl (E.2.1 0, 896, .inl u_24)), (e4, .inl (E.2.1 0, 896, .inl u_25))] H := hP
            have hD : va_D A [(g2, .inl (E.2.1 0, 7, .inl d2)), (g3, .inl (E.2.1 0, 7, .inl d3)), (e1, .inl (E.2.1 0, 512, .inl c1)), (e2, .inl (E.2.1 0, 512, .inl c2)), (g4, .inl (E.2.1 0, 7, .inl d4)), (g5, .inl (E.2.1 0, 7, .inl d5)), (of, .inr (2, [.ref g1, .ref g2, .ref g3, .ref g4, .ref g5, .int (nI on), .ref g6, .ref g7, .ref g8])), (g1, .inl (E.2.1 0, 7, .inl d1)), (g8, .inl (E.2.1 0, 100, .inl d8)), (h0, .inr (3, [.ref of, .ref e1, .ref e2, .ref e3, .ref e4])), (e3, .inl (E.2.1 0, 896, .inl u_24)), (e4, .inl (E.2.1 0, 896, .inl u_25))] := hD
            refine lv_if_ne (tgt := 179) hx hb dX3_extend_118 (by decide) (fun c_26 => ?_) (fun c_26 => ?_)
            · refine lv_iinc (v := (nI (k + 1))) (lv' := [(8, .int (nI (k + 1))), (12, .int (nI w_17)), (11, .int x_14), (10, .int x_11), (9, .int r_6), (0, .ref h0), (1, .int (nI cr)), (2, .int 0), (3, .int (nI se_)), (4, .int po_), (5, .int da), (6, .int co_), (7, .int or_)]) hx hb dX3_extend_179 hl (k := 12) rfl (show nI k + 1 = nI (k + 1) from nI_1 k) (by decide) rfl (fun ls hl => ?_)
              refine lv_goto (tgt := 10) hx hb dX3_extend_182 (by decide) ?_
              exact ih (k + 1) c1 c2 u_24 u_25 _ _ _ (by omega) (by omega) (hP.sub [9, 6, 7, 0, 1, 4, 5, 8, 2, 3, 10, 11] rfl) (hD.sub [9, 6, 7, 0, 1, 4, 5, 8, 2, 3, 10, 11] (by decide) rfl) hS (lv_sub hl [5, 6, 7, 8, 9, 10, 11, 12, 0] rfl)
            · refine lv_aload_n hx hb dX3_extend_121 rfl (lv_at hl 4 rfl) ?_
              refine lv_iload_n hx hb dX3_extend_122 rfl (lv_at hl 5 rfl) ?_
              refine lv_sipush (v := 128) hx hb dX3_extend_123 (by decide) ?_
              refine lv_imul hx hb dX3_extend_126 ?_
              refine lv_topi (fun x_27 ex_27 => ?_)
              obtain rfl : x_27 = nI (cr * 128) := ex_27.trans (pk_mul cr 128)
              refine lv_iload hx hb dX3_extend_127 (lv_at hl 0 rfl) ?_
              refine lv_iadd hx hb dX3_extend_129 ?_
              refine lv_topi (fun x_28 ex_28 => ?_)
              obtain rfl : x_28 = nI ((cr * 128) + w_17) := ex_28.trans (nI_add (cr * 128) w_17)
              refine lv_iload hx hb dX3_extend_130 (lv_at hl 1 rfl) ?_
              refine lv_iload hx hb dX3_extend_132 (lv_at hl 11 rfl) ?_
              refine lv_bipush (v := 8) hx hb dX3_extend_134 (by decide) ?_
              refine lv_imul hx hb dX3_extend_136 ?_
              refine lv_topi (fun x_29 ex_29 => ?_)
              refine lv_iload hx hb dX3_extend_137 (lv_at hl 12 rfl) ?_
              refine lv_iadd hx hb dX3_extend_139 ?_
              refine lv_topi (fun x_30 ex_30 => ?_)
              refine lv_iconst (v := 1) hx hb dX3_extend_140 (by decide) ?_
              refine lv_iadd hx hb dX3_extend_141 ?_
              refine lv_topi (fun x_31 ex_31 => ?_)
              have hPc := hP.sub (ws' := [(h0, .inr (3, [.ref of, .ref e1, .ref e2, .ref e3, .ref e4])), (e1, .inl (E.2.1 0, 512, .inl c1)), (e2, .inl (E.2.1 0, 512, .inl c2))]) [9, 2, 3] rfl
              have hDc := hD.sub (ws' := [(h0, .inr (3, [.ref of, .ref e1, .ref e2, .ref e3, .ref e4])), (e1, .inl (E.2.1 0, 512, .inl c1)), (e2, .inl (E.2.1 0, 512, .inl c2))]) [9, 2, 3] (by decide) rfl
              have hFc := va_free (wc := [(h0, .inr (3, [.ref of, .ref e1, .ref e2, .ref e3, .ref e4])), (e1, .inl (E.2.1 0, 512, .inl c1)), (e2, .inl (E.2.1 0, 512, .inl c2))]) hD hS hA [9, 2, 3] rfl
              refine va_callv (va_runV (As := [.int (nI ((cr * 128) + w_17)), .int x_14, .int x_31]) (rest := []) ⟨hx, hb, hml, hown, hts⟩ (c_X3_keep l E h0 of e1 e2 e3 e4 ((cr * 128) + w_17) x_14 x_31 c1 c2 H.size (by omega)) (cwV 3 hts gX3_extend_X3_keep rfl rfl rfl hdV_X3_keep ⟨Nat.le_of_ble_eq_true rfl, Nat.le_of_ble_eq_true rfl⟩) ⟨pcW_blind, va_recv hK hPc (ci := 3) (q0 := 0) rfl rfl, (pcW_pre hPc hkn hDc hst hS hFc)⟩ rfl rfl hl.1 rfl (lv_room (Nat.le_of_ble_eq_true rfl)) dX3_extend_142 ⟨Nat.le_of_ble_eq_true rfl, Nat.le_of_ble_eq_true rfl⟩) hS (fun q _ h => hFc q h) hFc (fun u t H1 locs ht hvm hw_33 hB hz1 hk1 hS => ?_)
              obtain ⟨u_34, u_35⟩ := u
              obtain ⟨hP1, hD1⟩ := hB
              rw [ht] at hP1
              try dsimp only at hw_33
              obtain ⟨hP, hD⟩ := va_join (wr := [(g2, .inl (E.2.1 0, 7, .inl d2)), (g3, .inl (E.2.1 0, 7, .inl d3)), (g4, .inl (E.2.1 0, 7, .inl d4)), (g5, .inl (E.2.1 0, 7, .inl d5)), (of, .inr (2, [.ref g1, .ref g2, .ref g3, .ref g4, .ref g5, .int (nI on), .ref g6, .ref g7, .ref g8])), (g1, .inl (E.2.1 0, 7, .inl d1)), (g8, .inl (E.2.1 0, 100, .inl d8)), (e3, .inl (E.2.1 0, 896, .inl u_24)), (e4, .inl (E.2.1 0, 896, .inl u_25))]) (w1 := [(h0, .inr (3, [.ref of, .ref e1, .ref e2, .ref e3, .ref e4])), (e1, .inl (E.2.1 0, 512, .inl u_34)), (e2, .inl (E.2.1 0, 512, .inl u_35))]) hP hD [9, 2, 3] [0, 1, 4, 5, 6, 7, 8, 10, 11] rfl rfl (by decide) (by decide) hk1 hFc hP1 hD1
              generalize H1 = H at hP hS ⊢
              have hP : va_P E.1 vwCl [(g2, .inl (E.2.1 0, 7, .inl d2)), (g3, .inl (E.2.1 0, 7, .inl d3)), (g4, .inl (E.2.1 0, 7, .inl d4)), (g5, .inl (E.2.1 0, 7, .inl d5)), (of, .inr (2, [.ref g1, .ref g2, .ref g3, .ref g4, .ref g5, .int (nI on), .ref g6, .ref g7, .ref g8])), (g1, .inl (E.2.1 0, 7, .inl d1)), (g8, .inl (E.2.1 0, 100, .inl d8)), (e3, .inl (E.2.1 0, 896, .inl u_24)), (e4, .inl (E.2.1 0, 896, .inl u_25)), (h0, .inr (3, [.ref of, .ref e1, .ref e2, .ref e3, .ref e4])), (e1, .inl (E.2.1 0, 512, .inl u_34)), (e2, .inl (E.2.1 0, 512, .inl u_35))] H := hP
              have hD : va_D A [(g2, .inl (E.2.1 0, 7, .inl d2)), (g3, .inl (E.2.1 0, 7, .inl d3)), (g4, .inl (E.2.1 0, 7, .inl d4)), (g5, .inl (E.2.1 0, 7, .inl d5)), (of, .inr (2, [.ref g1, .ref g2, .ref g3, .ref g4, .ref g5, .int (nI on), .ref g6, .ref g7, .ref g8])), (g1, .inl (E.2.1 0, 7, .inl d1)), (g8, .inl (E.2.1 0, 100, .inl d8)), (e3, .inl (E.2.1 0, 896, .inl u_24)), (e4, .inl (E.2.1 0, 896, .inl u_25)), (h0, .inr (3, [.ref of, .ref e1, .ref e2, .ref e3, .ref e4])), (e1, .inl (E.2.1 0, 512, .inl u_34)), (e2, .inl (E.2.1 0, 512, .inl u_35))] := hD
              refine lv_aload_n hx hb dX3_extend_145 rfl (lv_at hl 4 rfl) ?_
              refine lv_iload_n hx hb dX3_extend_146 rfl (lv_at hl 5 rfl) ?_
              refine lv_iload_n hx hb dX3_extend_147 rfl (lv_at hl 6 rfl) ?_
              refine lv_iconst (v := 1) hx hb dX3_extend_148 (by decide) ?_
              refine lv_iadd hx hb dX3_extend_149 ?_
              refine lv_topi (fun x_36 ex_36 => ?_)
              obtain rfl : x_36 = 1 := ex_36.trans (by decide +kernel)
              refine lv_iload hx hb dX3_extend_150 (lv_at hl 0 rfl) ?_
              refine lv_aload_n hx hb dX3_extend_152 rfl (lv_at hl 4 rfl) ?_
              refine va_get (D := E.1) (ci := 3) (v := .ref of) (C := RX3) (T := TX3) (N := 5) hx hb hts inX3 hown hK hP 9 rfl rfl 0 (by decide) fl24 (fun _ h9 => h9) rfl dX3_extend_153 ?_
              refine va_get (D := E.1) (ci := 2) (v := .ref g2) (C := RX2) (T := TX2) (N := 9) hx hb hts inX2 hown hK hP 4 rfl rfl 1 (by decide) fl70 (fun _ h9 => h9) rfl dX3_extend_156 ?_
              refine lv_iload hx hb dX3_extend_159 (lv_at hl 12 rfl) ?_
              refine va_iald hx hb hK hP 0 0 rfl rfl hi_9 dX3_extend_161 ?_
              refine lv_topi (fun x_37 ex_37 => ?_)
              refine lv_iload hx hb dX3_extend_162 (lv_at hl 2 rfl) ?_
              refine lv_iload hx hb dX3_extend_164 (lv_at hl 1 rfl) ?_
              refine lv_iload hx hb dX3_extend_166 (lv_at hl 11 rfl) ?_
              refine lv_bipush (v := 8) hx hb dX3_extend_168 (by decide) ?_
              refine lv_imul hx hb dX3_extend_170 ?_
              refine lv_topi (fun x_38 ex_38 => ?_)
              refine lv_iload hx hb dX3_extend_171 (lv_at hl 12 rfl) ?_
              refine lv_iadd hx hb dX3_extend_173 ?_
              refine lv_topi (fun x_39 ex_39 => ?_)
              refine lv_iconst (v := 1) hx hb dX3_extend_174 (by decide) ?_
              refine lv_iadd hx hb dX3_extend_175 ?_
              refine lv_topi (fun x_40 ex_40 => ?_)
              have hPc := hP.sub (ws' := [(h0, .inr (3, [.ref of, .ref e1, .ref e2, .ref e3, .ref e4])), (of, .inr (2, [.ref g1, .ref g2, .ref g3, .ref g4, .ref g5, .int (nI on), .ref g6, .ref g7, .ref g8])), (g1, .inl (E.2.1 0, 7, .inl d1)), (g2, .inl (E.2.1 0, 7, .inl d2)), (g3, .inl (E.2.1 0, 7, .inl d3)), (g4, .inl (E.2.1 0, 7, .inl d4)), (g5, .inl (E.2.1 0, 7, .inl d5)), (g8, .inl (E.2.1 0, 100, .inl d8)), (e1, .inl (E.2.1 0, 512, .inl u_34)), (e2, .inl (E.2.1 0, 512, .inl u_35)), (e3, .inl (E.2.1 0, 896, .inl u_24)), (e4, .inl (E.2.1 0, 896, .inl u_25))]) [9, 4, 5, 0, 1, 2, 3, 6, 10, 11, 7, 8] rfl
              have hDc := hD.sub (ws' := [(h0, .inr (3, [.ref of, .ref e1, .ref e2, .ref e3, .ref e4])), (of, .inr (2, [.ref g1, .ref g2, .ref g3, .ref g4, .ref g5, .int (nI on), .ref g6, .ref g7, .ref g8])), (g1, .inl (E.2.1 0, 7, .inl d1)), (g2, .inl (E.2.1 0, 7, .inl d2)), (g3, .inl (E.2.1 0, 7, .inl d3)), (g4, .inl (E.2.1 0, 7, .inl d4)), (g5, .inl (E.2.1 0, 7, .inl d5)), (g8, .inl (E.2.1 0, 100, .inl d8)), (e1, .inl (E.2.1 0, 512, .inl u_34)), (e2, .inl (E.2.1 0, 512, .inl u_35)), (e3, .inl (E.2.1 0, 896, .inl u_24)), (e4, .inl (E.2.1 0, 896, .inl u_25))]) [9, 4, 5, 0, 1, 2, 3, 6, 10, 11, 7, 8] (by decide) rfl
              have hFc := va_free (wc := [(h0, .inr (3, [.ref of, .ref e1, .ref e2, .ref e3, .ref e4])), (of, .inr (2, [.ref g1, .ref g2, .ref g3, .ref g4, .ref g5, .int (nI on), .ref g6, .ref g7, .ref g8])), (g1, .inl (E.2.1 0, 7, .inl d1)), (g2, .inl (E.2.1 0, 7, .inl d2)), (g3, .inl (E.2.1 0, 7, .inl d3)), (g4, .inl (E.2.1 0, 7, .inl d4)), (g5, .inl (E.2.1 0, 7, .inl d5)), (g8, .inl (E.2.1 0, 100, .inl d8)), (e1, .inl (E.2.1 0, 512, .inl u_34)), (e2, .inl (E.2.1 0, 512, .inl u_35)), (e3, .inl (E.2.1 0, 896, .inl u_24)), (e4, .inl (E.2.1 0, 896, .inl u_25))]) hD hS hA [9, 4, 5, 0, 1, 2, 3, 6, 10, 11, 7, 8] rfl
              refine va_callv (va_runV (As := [.int (nI cr), .int 1, .int (nI w_17), .int x_37, .int x_11, .int x_14, .int x_40]) (rest := []) ⟨hx, hb, hml, hown, hts⟩ (c_X3_extend1 l E h0 of e1 e2 e3 e4 g1 g2 g3 g4 g5 g6 g7 g8 on d1 d2 d3 d4 d5 d8 cr w_17 x_37 x_11 x_14 x_40 u_34 u_35 u_24 u_25 H.size hcr hwd_18 hd1) (cwV 7 hts gX3_extend_X3_extend rfl rfl rfl hdV_X3_extend ⟨Nat.le_of_ble_eq_true rfl, Nat.le_of_ble_eq_true rfl⟩) ⟨pcW_blind, va_recv hK hPc (ci := 3) (q0 := 0) rfl rfl, (pcW_pre hPc hkn hDc hst hS hFc)⟩ rfl rfl hl.1 rfl (lv_room (Nat.le_of_ble_eq_true rfl)) dX3_extend_176 ⟨Nat.le_of_ble_eq_true rfl, Nat.le_of_ble_eq_true rfl⟩) hS (fun q _ h => hFc q h) hFc (fun u t H1 locs ht hvm hw_42 hB hz1 hk1 hS => ?_)
              obtain ⟨u_43, u_44, u_45, u_46⟩ := u
              obtain ⟨hP1, hD1⟩ := hB
              rw [ht] at hP1
              try dsimp only at hw_42
              obtain ⟨hP, hD⟩ := va_join (wr := []) (w1 := [(h0, .inr (3, [.ref of, .ref e1, .ref e2, .ref e3, .ref e4])), (of, .inr (2, [.ref g1, .ref g2, .ref g3, .ref g4, .ref g5, .int (nI on), .ref g6, .ref g7, .ref g8])), (g1, .inl (E.2.1 0, 7, .inl d1)), (g2, .inl (E.2.1 0, 7, .inl d2)), (g3, .inl (E.2.1 0, 7, .inl d3)), (g4, .inl (E.2.1 0, 7, .inl d4)), (g5, .inl (E.2.1 0, 7, .inl d5)), (g8, .inl (E.2.1 0, 100, .inl d8)), (e1, .inl (E.2.1 0, 512, .inl u_43)), (e2, .inl (E.2.1 0, 512, .inl u_44)), (e3, .inl (E.2.1 0, 896, .inl u_45)), (e4, .inl (E.2.1 0, 896, .inl u_46))]) hP hD [9, 4, 5, 0, 1, 2, 3, 6, 10, 11, 7, 8] [] rfl rfl (by decide) (by decide) hk1 hFc hP1 hD1
              generalize H1 = H at hP hS ⊢
              have hP : va_P E.1 vwCl [(h0, .inr (3, [.ref of, .ref e1, .ref e2, .ref e3, .ref e4])), (of, .inr (2, [.ref g1, .ref g2, .ref g3, .ref g4, .ref g5, .int (nI on), .ref g6, .ref g7, .ref g8])), (g1, .inl (E.2.1 0, 7, .inl d1)), (g2, .inl (E.2.1 0, 7, .inl d2)), (g3, .inl (E.2.1 0, 7, .inl d3)), (g4, .inl (E.2.1 0, 7, .inl d4)), (g5, .inl (E.2.1 0, 7, .inl d5)), (g8, .inl (E.2.1 0, 100, .inl d8)), (e1, .inl (E.2.1 0, 512, .inl u_43)), (e2, .inl (E.2.1 0, 512, .inl u_44)), (e3, .inl (E.2.1 0, 896, .inl u_45)), (e4, .inl (E.2.1 0, 896, .inl u_46))] H := hP
              have hD : va_D A [(h0, .inr (3, [.ref of, .ref e1, .ref e2, .ref e3, .ref e4])), (of, .inr (2, [.ref g1, .ref g2, .ref g3, .ref g4, .ref g5, .int (nI on), .ref g6, .ref g7, .ref g8])), (g1, .inl (E.2.1 0, 7, .inl d1)), (g2, .inl (E.2.1 0, 7, .inl d2)), (g3, .inl (E.2.1 0, 7, .inl d3)), (g4, .inl (E.2.1 0, 7, .inl d4)), (g5, .inl (E.2.1 0, 7, .inl d5)), (g8, .inl (E.2.1 0, 100, .inl d8)), (e1, .inl (E.2.1 0, 512, .inl u_43)), (e2, .inl (E.2.1 0, 512, .inl u_44)), (e3, .inl (E.2.1 0, 896, .inl u_45)), (e4, .inl (E.2.1 0, 896, .inl u_46))] := hD
              refine lv_iinc (v := (nI (k + 1))) (lv' := [(8, .int (nI (k + 1))), (12, .int (nI w_17)), (11, .int x_14), (10, .int x_11), (9, .int r_6), (0, .ref h0), (1, .int (nI cr)), (2, .int 0), (3, .int (nI se_)), (4, .int po_), (5, .int da), (6, .int co_), (7, .int or_)]) hx hb dX3_extend_179 hl (k := 12) rfl (show nI k + 1 = nI (k + 1) from nI_1 k) (by decide) rfl (fun ls hl => ?_)
              refine lv_goto (tgt := 10) hx hb dX3_extend_182 (by decide) ?_
              exact ih (k + 1) u_43 u_44 u_45 u_46 _ _ _ (by omega) (by omega) (hP.sub [0, 1, 2, 3, 4, 5, 6, 7, 8, 9, 10, 11] rfl) (hD.sub [0, 1, 2, 3, 4, 5, 6, 7, 8, 9, 10, 11] (by decide) rfl) hS (lv_sub hl [5, 6, 7, 8, 9, 10, 11, 12, 0] rfl)
        · refine lv_iconst (v := (-1)) hx hb dX3_extend_38 (by decide) ?_
          refine lv_goto (tgt := 55) hx hb dX3_extend_39 (by decide) ?_
          refine lv_istore (lv' := [(9, .int (-1)), (0, .ref h0), (1, .int (nI cr)), (2, .int 0), (3, .int (nI se_)), (4, .int po_), (5, .int da), (6, .int co_), (7, .int or_), (8, .int (nI k))]) hx hb dX3_extend_55 hl (by decide) rfl (fun ls hl => ?_)
          refine lv_iload hx hb dX3_extend_57 (lv_at hl 0 rfl) ?_
          refine lv_iconst (v := (-1)) hx hb dX3_extend_59 (by decide) ?_
          refine lv_icmp_eq (tgt := 179) hx hb dX3_extend_60 (by decide) (fun _ => ?_) (fun c9 => absurd c9 (by decide))
          refine lv_iinc (v := (nI (k + 1))) (lv' := [(8, .int (nI (k + 1))), (9, .int (-1)), (0, .ref h0), (1, .int (nI cr)), (2, .int 0), (3, .int (nI se_)), (4, .int po_), (5, .int da), (6, .int co_), (7, .int or_)]) hx hb dX3_extend_179 hl (k := 9) rfl (show nI k + 1 = nI (k + 1) from nI_1 k) (by decide) rfl (fun ls hl => ?_)
          refine lv_goto (tgt := 10) hx hb dX3_extend_182 (by decide) ?_
          exact ih (k + 1) c1 c2 c3 c4 _ _ _ (by omega) (by omega) (hP.sub [0, 1, 2, 3, 4, 5, 6, 7, 8, 9, 10, 11] rfl) (hD.sub [0, 1, 2, 3, 4, 5, 6, 7, 8, 9, 10, 11] (by decide) rfl) hS (lv_sub hl [2, 3, 4, 5, 6, 7, 8, 9, 0] rfl)
set_option maxHeartbeats 4000000 in
set_option maxRecDepth 100000 in
theorem c_X3_extend0 (l : Launch) (E : vE) (h0 : Nat) (of : Nat) (e1 : Nat) (e2 : Nat) (e3 : Nat) (e4 : Nat) (g1 : Nat) (g2 : Nat) (g3 : Nat) (g4 : Nat) (g5 : Nat) (g6 : Nat) (g7 : Nat) (g8 : Nat) (on : Nat) (d1 : Nat → Int32) (d2 : Nat → Int32) (d3 : Nat → Int32) (d4 : Nat → Int32) (d5 : Nat → Int32) (d8 : Nat → Int32) (cr : Nat) (se_ : Nat) (po_ : Int32) (da : Int32) (co_ : Int32) (or_ : Int32) (c1 : Nat → Int32) (c2 : Nat → Int32) (c3 : Nat → Int32) (c4 : Nat → Int32) (sz : Nat) (hcr : cr < 4) (hse : se_ < 128) (hd1 : ∀ k, k < 7 → inR (d1 k) 0 9 = true) : Met l yX3_extend wsX3_extend ({ frames := 10, cells := 0, slots := 0, locals := 292 }) (pcW E [.ref h0, .int (nI cr), .int 0, .int (nI se_), .int po_, .int da, .int co_, .int or_] sz [(h0, .inr (3, [.ref of, .ref e1, .ref e2, .ref e3, .ref e4])), (of, .inr (2, [.ref g1, .ref g2, .ref g3, .ref g4, .ref g5, .int (nI on), .ref g6, .ref g7, .ref g8])), (g1, .inl (E.2.1 0, 7, .inl d1)), (g2, .inl (E.2.1 0, 7, .inl d2)), (g3, .inl (E.2.1 0, 7, .inl d3)), (g4, .inl (E.2.1 0, 7, .inl d4)), (g5, .inl (E.2.1 0, 7, .inl d5)), (g8, .inl (E.2.1 0, 100, .inl d8)), (e1, .inl (E.2.1 0, 512, .inl c1)), (e2, .inl (E.2.1 0, 512, .inl c2)), (e3, .inl (E.2.1 0, 896, .inl c3)), (e4, .inl (E.2.1 0, 896, .inl c4))]) (va_Qv (fun (u : (Nat → Int32) × (Nat → Int32) × (Nat → Int32) × (Nat → Int32)) => match u with | (c12, c22, c32, c42) => True) (fun (u : (Nat → Int32) × (Nat → Int32) × (Nat → Int32) × (Nat → Int32)) (t : State) => match u with | (c12, c22, c32, c42) => wB E (va_A [(h0, .inr (3, [.ref of, .ref e1, .ref e2, .ref e3, .ref e4])), (of, .inr (2, [.ref g1, .ref g2, .ref g3, .ref g4, .ref g5, .int (nI on), .ref g6, .ref g7, .ref g8])), (g1, .inl (E.2.1 0, 7, .inl d1)), (g2, .inl (E.2.1 0, 7, .inl d2)), (g3, .inl (E.2.1 0, 7, .inl d3)), (g4, .inl (E.2.1 0, 7, .inl d4)), (g5, .inl (E.2.1 0, 7, .inl d5)), (g8, .inl (E.2.1 0, 100, .inl d8)), (e1, .inl (E.2.1 0, 512, .inl c1)), (e2, .inl (E.2.1 0, 512, .inl c2)), (e3, .inl (E.2.1 0, 896, .inl c3)), (e4, .inl (E.2.1 0, 896, .inl c4))] sz) [(h0, .inr (3, [.ref of, .ref e1, .ref e2, .ref e3, .ref e4])), (of, .inr (2, [.ref g1, .ref g2, .ref g3, .ref g4, .ref g5, .int (nI on), .ref g6, .ref g7, .ref g8])), (g1, .inl (E.2.1 0, 7, .inl d1)), (g2, .inl (E.2.1 0, 7, .inl d2)), (g3, .inl (E.2.1 0, 7, .inl d3)), (g4, .inl (E.2.1 0, 7, .inl d4)), (g5, .inl (E.2.1 0, 7, .inl d5)), (g8, .inl (E.2.1 0, 100, .inl d8)), (e1, .inl (E.2.1 0, 512, .inl c12)), (e2, .inl (E.2.1 0, 512, .inl c22)), (e3, .inl (E.2.1 0, 896, .inl c32)), (e4, .inl (E.2.1 0, 896, .inl c42))] t) (va_A [(h0, .inr (3, [.ref of, .ref e1, .ref e2, .ref e3, .ref e4])), (of, .inr (2, [.ref g1, .ref g2, .ref g3, .ref g4, .ref g5, .int (nI on), .ref g6, .ref g7, .ref g8])), (g1, .inl (E.2.1 0, 7, .inl d1)), (g2, .inl (E.2.1 0, 7, .inl d2)), (g3, .inl (E.2.1 0, 7, .inl d3)), (g4, .inl (E.2.1 0, 7, .inl d4)), (g5, .inl (E.2.1 0, 7, .inl d5)), (g8, .inl (E.2.1 0, 100, .inl d8)), (e1, .inl (E.2.1 0, 512, .inl c1)), (e2, .inl (E.2.1 0, 512, .inl c2)), (e3, .inl (E.2.1 0, 896, .inl c3)), (e4, .inl (E.2.1 0, 896, .inl c4))] sz)) 0 0 (va_A [(h0, .inr (3, [.ref of, .ref e1, .ref e2, .ref e3, .ref e4])), (of, .inr (2, [.ref g1, .ref g2, .ref g3, .ref g4, .ref g5, .int (nI on), .ref g6, .ref g7, .ref g8])), (g1, .inl (E.2.1 0, 7, .inl d1)), (g2, .inl (E.2.1 0, 7, .inl d2)), (g3, .inl (E.2.1 0, 7, .inl d3)), (g4, .inl (E.2.1 0, 7, .inl d4)), (g5, .inl (E.2.1 0, 7, .inl d5)), (g8, .inl (E.2.1 0, 100, .inl d8)), (e1, .inl (E.2.1 0, 512, .inl c1)), (e2, .inl (E.2.1 0, 512, .inl c2)), (e3, .inl (E.2.1 0, 896, .inl c3)), (e4, .inl (E.2.1 0, 896, .inl c4))] sz) := by
  refine Met.ofW (cc := cX3_extend) (maxL := 13) (ret := none) (by decide) rfl ?_
  intro p e s m args below meth c s₁ B hml hv
  obtain ⟨rfl, hsz, hP, hkn, hD0, hst⟩ := hv
  have hx := B.exec
  have hb := B.bytes
  have hr := B.returns
  have hts := atoms_spec (ws := wsX3_extend) B.pre
  have hown : s.vm.findClass RX3 = some m.cls := findClass_of_methodNamed B.named
  have hlocks := B.notSynchronized
  subst hsz
  have hD := hD0.self (sz := s.heap.size)
  have hK := hkn.1
  have hAO := hkn.2.2.1
  generalize hAe : va_A [(h0, .inr (3, [.ref of, .ref e1, .ref e2, .ref e3, .ref e4])), (of, .inr (2, [.ref g1, .ref g2, .ref g3, .ref g4, .ref g5, .int (nI on), .ref g6, .ref g7, .ref g8])), (g1, .inl (E.2.1 0, 7, .inl d1)), (g2, .inl (E.2.1 0, 7, .inl d2)), (g3, .inl (E.2.1 0, 7, .inl d3)), (g4, .inl (E.2.1 0, 7, .inl d4)), (g5, .inl (E.2.1 0, 7, .inl d5)), (g8, .inl (E.2.1 0, 100, .inl d8)), (e1, .inl (E.2.1 0, 512, .inl c1)), (e2, .inl (E.2.1 0, 512, .inl c2)), (e3, .inl (E.2.1 0, 896, .inl c3)), (e4, .inl (E.2.1 0, 896, .inl c4))] s.heap.size = A at hD hst ⊢
  have hA : ∀ q : Nat, s.heap.size ≤ q → A q := fun q h => by rw [← hAe]; exact Or.inr h
  have hS : va_S A s.heap s.heap [] := va_S.rf
  have hP : va_P E.1 vwCl [(h0, .inr (3, [.ref of, .ref e1, .ref e2, .ref e3, .ref e4])), (of, .inr (2, [.ref g1, .ref g2, .ref g3, .ref g4, .ref g5, .int (nI on), .ref g6, .ref g7, .ref g8])), (g1, .inl (E.2.1 0, 7, .inl d1)), (g2, .inl (E.2.1 0, 7, .inl d2)), (g3, .inl (E.2.1 0, 7, .inl d3)), (g4, .inl (E.2.1 0, 7, .inl d4)), (g5, .inl (E.2.1 0, 7, .inl d5)), (g8, .inl (E.2.1 0, 100, .inl d8)), (e1, .inl (E.2.1 0, 512, .inl c1)), (e2, .inl (E.2.1 0, 512, .inl c2)), (e3, .inl (E.2.1 0, 896, .inl c3)), (e4, .inl (E.2.1 0, 896, .inl c4))] s.heap := hP
  have hl := lv_entry ([.ref h0, .int (nI cr), .int 0, .int (nI se_), .int po_, .int da, .int co_, .int or_]) (n := 13) (Nat.le_of_ble_eq_true rfl)
  rw [lg_entry_eq]
  generalize (lg_sl ([.ref h0, .int (nI cr), .int 0, .int (nI se_), .int po_, .int da, .int co_, .int or_]) ++ List.replicate (13 - (lg_sl ([.ref h0, .int (nI cr), .int 0, .int (nI se_), .int po_, .int da, .int co_, .int or_])).length) Slot.unset).toArray = ls at hl ⊢
  have hl : lv_has ls 13 [(0, .ref h0), (1, .int (nI cr)), (2, .int 0), (3, .int (nI se_)), (4, .int po_), (5, .int da), (6, .int co_), (7, .int or_)] := hl
  have fl24 := hts (.fieldLink RX3 24 "BoatsHome$Orders" "offers" "LBoatsHome$Offers;") (by first | exact List.mem_of_getElem? (i := 1) rfl | decide +kernel)
  have fl47 := hts (.fieldLink RX3 47 "BoatsHome$Offers" "size" "I") (by first | exact List.mem_of_getElem? (i := 2) rfl | decide +kernel)
  have fl55 := hts (.fieldLink RX3 55 "BoatsHome$Offers" "days" "[I") (by first | exact List.mem_of_getElem? (i := 3) rfl | decide +kernel)
  have fl70 := hts (.fieldLink RX3 70 "BoatsHome$Offers" "to" "[I") (by first | exact List.mem_of_getElem? (i := 4) rfl | decide +kernel)
  have inX2 : ∀ w ∈ u_ws RX2 TX2 9, w ∈ wsX3_extend := by first | exact fun w h9 => (List.mem_cons_of_mem _ (List.mem_append_right _ h9)) | decide +kernel
  have inX3 : ∀ w ∈ u_ws RX3 TX3 5, w ∈ wsX3_extend := by first | exact fun w h9 => (List.mem_cons_of_mem _ (List.mem_append_left _ (List.mem_append_right _ h9))) | decide +kernel
  refine lv_iload_n hx hb dX3_extend_0 rfl (lv_at hl 2 rfl) ?_
  refine lv_bipush (v := 7) hx hb dX3_extend_1 (by decide) ?_
  refine lv_icmp_lt (tgt := 7) hx hb dX3_extend_3 (by decide) (fun _ => ?_) (fun c9 => absurd c9 (by decide))
  refine lv_iconst (v := 0) hx hb dX3_extend_7 (by decide) ?_
  refine lv_istore (lv' := [(8, .int 0), (0, .ref h0), (1, .int (nI cr)), (2, .int 0), (3, .int (nI se_)), (4, .int po_), (5, .int da), (6, .int co_), (7, .int or_)]) hx hb dX3_extend_8 hl (by decide) rfl (fun ls hl => ?_)
  have hPl := hP.sub (ws' := [(h0, .inr (3, [.ref of, .ref e1, .ref e2, .ref e3, .ref e4])), (of, .inr (2, [.ref g1, .ref g2, .ref g3, .ref g4, .ref g5, .int (nI on), .ref g6, .ref g7, .ref g8])), (g1, .inl (E.2.1 0, 7, .inl d1)), (g2, .inl (E.2.1 0, 7, .inl d2)), (g3, .inl (E.2.1 0, 7, .inl d3)), (g4, .inl (E.2.1 0, 7, .inl d4)), (g5, .inl (E.2.1 0, 7, .inl d5)), (g8, .inl (E.2.1 0, 100, .inl d8)), (e1, .inl (E.2.1 0, 512, .inl c1)), (e2, .inl (E.2.1 0, 512, .inl c2)), (e3, .inl (E.2.1 0, 896, .inl c3)), (e4, .inl (E.2.1 0, 896, .inl c4))]) [0, 1, 2, 3, 4, 5, 6, 7, 8, 9, 10, 11] rfl
  have hDl := hD.sub (ws' := [(h0, .inr (3, [.ref of, .ref e1, .ref e2, .ref e3, .ref e4])), (of, .inr (2, [.ref g1, .ref g2, .ref g3, .ref g4, .ref g5, .int (nI on), .ref g6, .ref g7, .ref g8])), (g1, .inl (E.2.1 0, 7, .inl d1)), (g2, .inl (E.2.1 0, 7, .inl d2)), (g3, .inl (E.2.1 0, 7, .inl d3)), (g4, .inl (E.2.1 0, 7, .inl d4)), (g5, .inl (E.2.1 0, 7, .inl d5)), (g8, .inl (E.2.1 0, 100, .inl d8)), (e1, .inl (E.2.1 0, 512, .inl c1)), (e2, .inl (E.2.1 0, 512, .inl c2)), (e3, .inl (E.2.1 0, 896, .inl c3)), (e4, .inl (E.2.1 0, 896, .inl c4))]) [0, 1, 2, 3, 4, 5, 6, 7, 8, 9, 10, 11] (by decide) rfl
  refine lg_extend0 E h0 of e1 e2 e3 e4 g1 g2 g3 g4 g5 g6 g7 g8 on d1 d2 d3 d4 d5 d8 cr se_ po_ da co_ or_ hx hb hml hown hts hkn hst hA hcr hse hd1 (fun n_1 n_2 n_3 n_4 H locs ls  hP hD hS hl => ?_) 8 0 c1 c2 c3 c4 _ _ _ (by omega) (by omega) hPl hDl hS (lv_sub hl [1, 2, 3, 4, 5, 6, 7, 8, 0] rfl)
  have hP : va_P E.1 vwCl [(h0, .inr (3, [.ref of, .ref e1, .ref e2, .ref e3, .ref e4])), (of, .inr (2, [.ref g1, .ref g2, .ref g3, .ref g4, .ref g5, .int (nI on), .ref g6, .ref g7, .ref g8])), (g1, .inl (E.2.1 0, 7, .inl d1)), (g2, .inl (E.2.1 0, 7, .inl d2)), (g3, .inl (E.2.1 0, 7, .inl d3)), (g4, .inl (E.2.1 0, 7, .inl d4)), (g5, .inl (E.2.1 0, 7, .inl d5)), (g8, .inl (E.2.1 0, 100, .inl d8)), (e1, .inl (E.2.1 0, 512, .inl n_1)), (e2, .inl (E.2.1 0, 512, .inl n_2)), (e3, .inl (E.2.1 0, 896, .inl n_3)), (e4, .inl (E.2.1 0, 896, .inl n_4))] H := hP
  have hD : va_D A [(h0, .inr (3, [.ref of, .ref e1, .ref e2, .ref e3, .ref e4])), (of, .inr (2, [.ref g1, .ref g2, .ref g3, .ref g4, .ref g5, .int (nI on), .ref g6, .ref g7, .ref g8])), (g1, .inl (E.2.1 0, 7, .inl d1)), (g2, .inl (E.2.1 0, 7, .inl d2)), (g3, .inl (E.2.1 0, 7, .inl d3)), (g4, .inl (E.2.1 0, 7, .inl d4)), (g5, .inl (E.2.1 0, 7, .inl d5)), (g8, .inl (E.2.1 0, 100, .inl d8)), (e1, .inl (E.2.1 0, 512, .inl n_1)), (e2, .inl (E.2.1 0, 512, .inl n_2)), (e3, .inl (E.2.1 0, 896, .inl n_3)), (e4, .inl (E.2.1 0, 896, .inl n_4))] := hD
  have hP9 := hP.sub (ws' := [(h0, .inr (3, [.ref of, .ref e1, .ref e2, .ref e3, .ref e4])), (of, .inr (2, [.ref g1, .ref g2, .ref g3, .ref g4, .ref g5, .int (nI on), .ref g6, .ref g7, .ref g8])), (g1, .inl (E.2.1 0, 7, .inl d1)), (g2, .inl (E.2.1 0, 7, .inl d2)), (g3, .inl (E.2.1 0, 7, .inl d3)), (g4, .inl (E.2.1 0, 7, .inl d4)), (g5, .inl (E.2.1 0, 7, .inl d5)), (g8, .inl (E.2.1 0, 100, .inl d8)), (e1, .inl (E.2.1 0, 512, .inl n_1)), (e2, .inl (E.2.1 0, 512, .inl n_2)), (e3, .inl (E.2.1 0, 896, .inl n_3)), (e4, .inl (E.2.1 0, 896, .inl n_4))]) [0, 1, 2, 3, 4, 5, 6, 7, 8, 9, 10, 11] rfl
  have hD9 := hD.sub (ws' := [(h0, .inr (3, [.ref of, .ref e1, .ref e2, .ref e3, .ref e4])), (of, .inr (2, [.ref g1, .ref g2, .ref g3, .ref g4, .ref g5, .int (nI on), .ref g6, .ref g7, .ref g8])), (g1, .inl (E.2.1 0, 7, .inl d1)), (g2, .inl (E.2.1 0, 7, .inl d2)), (g3, .inl (E.2.1 0, 7, .inl d3)), (g4, .inl (E.2.1 0, 7, .inl d4)), (g5, .inl (E.2.1 0, 7, .inl d5)), (g8, .inl (E.2.1 0, 100, .inl d8)), (e1, .inl (E.2.1 0, 512, .inl n_1)), (e2, .inl (E.2.1 0, 512, .inl n_2)), (e3, .inl (E.2.1 0, 896, .inl n_3)), (e4, .inl (E.2.1 0, 896, .inl n_4))]) [0, 1, 2, 3, 4, 5, 6, 7, 8, 9, 10, 11] (by decide) rfl
  exact W.vret hx hb hr (fun t ht hW => ⟨⟨(n_1, n_2, n_3, n_4), rfl, trivial, by rw [ht]; exact hP9, hD9⟩, hS.F ht⟩) hS.2.2 dX3_extend_185
