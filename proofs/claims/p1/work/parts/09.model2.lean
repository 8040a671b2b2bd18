set_option maxHeartbeats 4000000 in
set_option maxRecDepth 100000 in
theorem c_X12_taking (l : Launch) (E : vE) (h0 : Nat) (q : Nat → Nat) (sz : Nat) : Met l yX12_taking wsX12_taking ({ frames := 0, cells := 0, slots := 0, locals := 0 }) (pcW E [.ref h0] sz [(h0, .inr (12, mO q))]) (va_Qv (fun (_ : Unit) => True) (fun (_ : Unit) (t : State) => wB E (va_A [(h0, .inr (12, mO q))] sz) [(h0, .inr (12, mO q))] t) (va_A [(h0, .inr (12, mO q))] sz)) 0 0 (va_A [(h0, .inr (12, mO q))] sz) := by
  refine Met.ofW (cc := cX12_taking) (maxL := 1) (ret := none) (by decide) rfl ?_
  intro p e s m args below meth c s₁ B hml hv
  obtain ⟨rfl, hsz, hP, hkn, hD0, hst⟩ := hv
  have hx := B.exec
  have hb := B.bytes
  have hr := B.returns
  have hts := atoms_spec (ws := wsX12_taking) B.pre
  have hown : s.vm.findClass RX12 = some m.cls := findClass_of_methodNamed B.named
  have hlocks := B.notSynchronized
  subst hsz
  have hD := hD0.self (sz := s.heap.size)
  have hK := hkn.1
  have hAO := hkn.2.2
  generalize hAe : va_A [(h0, .inr (12, mO q))] s.heap.size = A at hD hst ⊢
  have hA : ∀ q : Nat, s.heap.size ≤ q → A q := fun q h => by rw [← hAe]; exact Or.inr h
  have hS : va_S A s.heap s.heap [] := va_S.rf
  have hP : va_P E.1 vwCl [(h0, .inr (12, mO q))] s.heap := hP
  have hl := lv_entry ([.ref h0]) (n := 1) (Nat.le_of_ble_eq_true rfl)
  rw [lg_entry_eq]
  generalize (lg_sl ([.ref h0]) ++ List.replicate (1 - (lg_sl ([.ref h0])).length) Slot.unset).toArray = ls at hl ⊢
  have hl : lv_has ls 1 [(0, .ref h0)] := hl
  have fl152 := hts (.fieldLink RX12 152 "BoatsHomeModel" "taped" "I") (by decide +kernel)
  have fl155 := hts (.fieldLink RX12 155 "BoatsHomeModel" "size" "I") (by decide +kernel)
  have fl174 := hts (.fieldLink RX12 174 "BoatsHomeModel" "end" "I") (by decide +kernel)
  have inX12 : ∀ w ∈ u_ws RX12 TX12 59, w ∈ wsX12_taking := by decide +kernel
  refine lv_aload_n hx hb dX12_taking_0 rfl (lv_at hl 0 rfl) ?_
  refine lv_aload_n hx hb dX12_taking_1 rfl (lv_at hl 0 rfl) ?_
  refine va_get (D := E.1) (ci := 12) (v := .int 0) (C := RX12) (T := TX12) (N := 59) hx hb hts inX12 hown hK hP 0 rfl rfl 1 (by decide) fl152 (fun _ h9 => h9) rfl dX12_taking_2 ?_
  refine va_put (D := E.1) (ci := 12) (v := .int 0) (ty := .int) (C := RX12) (T := TX12) (N := 59) hx hb hts inX12 tyX12 tyX12_ok nmX12 hown hK hP hD hS 0 rfl rfl 2 (by decide) fl155 (fun _ h9 => h9) rfl (by decide +kernel) rfl rfl (Nat.le_of_ble_eq_true rfl) dX12_taking_5 (fun H locs hP hD hS => ?_)
  have hP : va_P E.1 vwCl [(h0, .inr (12, mO q))] H := hP
  have hD : va_D A [(h0, .inr (12, mO q))] := hD
  refine lv_aload_n hx hb dX12_taking_8 rfl (lv_at hl 0 rfl) ?_
  refine lv_iconst (v := 0) hx hb dX12_taking_9 (by decide) ?_
  refine va_put (D := E.1) (ci := 12) (v := .int 0) (ty := .int) (C := RX12) (T := TX12) (N := 59) hx hb hts inX12 tyX12 tyX12_ok nmX12 hown hK hP hD hS 0 rfl rfl 1 (by decide) fl152 (fun _ h9 => h9) rfl (by decide +kernel) rfl rfl (Nat.le_of_ble_eq_true rfl) dX12_taking_10 (fun H locs hP hD hS => ?_)
  have hP : va_P E.1 vwCl [(h0, .inr (12, mO q))] H := hP
  have hD : va_D A [(h0, .inr (12, mO q))] := hD
  refine lv_aload_n hx hb dX12_taking_13 rfl (lv_at hl 0 rfl) ?_
  refine lv_iconst (v := 0) hx hb dX12_taking_14 (by decide) ?_
  refine va_put (D := E.1) (ci := 12) (v := .int 0) (ty := .int) (C := RX12) (T := TX12) (N := 59) hx hb hts inX12 tyX12 tyX12_ok nmX12 hown hK hP hD hS 0 rfl rfl 6 (by decide) fl174 (fun _ h9 => h9) rfl (by decide +kernel) rfl rfl (Nat.le_of_ble_eq_true rfl) dX12_taking_15 (fun H locs hP hD hS => ?_)
  have hP : va_P E.1 vwCl [(h0, .inr (12, mO q))] H := hP
  have hD : va_D A [(h0, .inr (12, mO q))] := hD
  have hP9 := hP.sub (ws' := [(h0, .inr (12, mO q))]) [0] rfl
  have hD9 := hD.sub (ws' := [(h0, .inr (12, mO q))]) [0] (by decide) rfl
  exact W.vret hx hb hr (fun t ht hW => ⟨⟨(), rfl, trivial, by rw [ht]; exact hP9, hD9⟩, hS.F ht⟩) hS.2.2 dX12_taking_18
set_option maxHeartbeats 4000000 in
set_option maxRecDepth 100000 in
theorem c_X12_see (l : Launch) (E : vE) (h0 : Nat) (q : Nat → Nat) (sz : Nat) : Met l yX12_see wsX12_see ({ frames := 0, cells := 0, slots := 0, locals := 0 }) (pcW E [.ref h0, .int 0] sz [(h0, .inr (12, mO q))]) (va_Qi (fun (r : Int32) (_ : Unit) => r = -1) (fun (_ : Unit) (t : State) => wB E (va_A [(h0, .inr (12, mO q))] sz) [(h0, .inr (12, mO q))] t) (va_A [(h0, .inr (12, mO q))] sz)) 0 0 (va_A [(h0, .inr (12, mO q))] sz) := by
  refine Met.ofW (cc := cX12_see) (maxL := 2) (ret := (some .int)) (by decide) rfl ?_
  intro p e s m args below meth c s₁ B hml hv
  obtain ⟨rfl, hsz, hP, hkn, hD0, hst⟩ := hv
  have hx := B.exec
  have hb := B.bytes
  have hr := B.returns
  have hts := atoms_spec (ws := wsX12_see) B.pre
  have hown : s.vm.findClass RX12 = some m.cls := findClass_of_methodNamed B.named
  have hlocks := B.notSynchronized
  subst hsz
  have hD := hD0.self (sz := s.heap.size)
  have hK := hkn.1
  have hAO := hkn.2.2
  generalize hAe : va_A [(h0, .inr (12, mO q))] s.heap.size = A at hD hst ⊢
  have hA : ∀ q : Nat, s.heap.size ≤ q → A q := fun q h => by rw [← hAe]; exact Or.inr h
  have hS : va_S A s.heap s.heap [] := va_S.rf
  have hP : va_P E.1 vwCl [(h0, .inr (12, mO q))] s.heap := hP
  have hl := lv_entry ([.ref h0, .int 0]) (n := 2) (Nat.le_of_ble_eq_true rfl)
  rw [lg_entry_eq]
  generalize (lg_sl ([.ref h0, .int 0]) ++ List.replicate (2 - (lg_sl ([.ref h0, .int 0])).length) Slot.unset).toArray = ls at hl ⊢
  have hl : lv_has ls 2 [(0, .ref h0), (1, .int 0)] := hl
  have fl7 := hts (.fieldLink RX12 7 "BoatsHomeModel" "tape" "[B") (by decide +kernel)
  have fl155 := hts (.fieldLink RX12 155 "BoatsHomeModel" "size" "I") (by decide +kernel)
  have inX12 : ∀ w ∈ u_ws RX12 TX12 59, w ∈ wsX12_see := by decide +kernel
  refine lv_iload_n hx hb dX12_see_0 rfl (lv_at hl 1 rfl) ?_
  refine lv_aload_n hx hb dX12_see_1 rfl (lv_at hl 0 rfl) ?_
  refine va_get (D := E.1) (ci := 12) (v := .int 0) (C := RX12) (T := TX12) (N := 59) hx hb hts inX12 hown hK hP 0 rfl rfl 2 (by decide) fl155 (fun _ h9 => h9) rfl dX12_see_2 ?_
  refine lv_icmp_ge (tgt := 21) hx hb dX12_see_5 (by decide) (fun _ => ?_) (fun c9 => absurd c9 (by decide))
  refine lv_iconst (v := (-1)) hx hb dX12_see_21 (by decide) ?_
  have hP9 := hP.sub (ws' := [(h0, .inr (12, mO q))]) [0] rfl
  have hD9 := hD.sub (ws' := [(h0, .inr (12, mO q))]) [0] (by decide) rfl
  exact W.iret (v := (-1)) hx hb hr (fun t ht hW => ⟨⟨(-1), (), rfl, rfl, by rw [ht]; exact hP9, hD9⟩, hS.F ht⟩) hS.2.2 dX12_see_22
set_option maxHeartbeats 4000000 in
set_option maxRecDepth 100000 in
theorem c_X12_scan (l : Launch) (E : vE) (h0 : Nat) (q : Nat → Nat) (sz : Nat) : Met l yX12_scan wsX12_scan ({ frames := 1, cells := 0, slots := 0, locals := 21 }) (pcW E [.ref h0] sz [(h0, .inr (12, mO q))]) (va_Qv (fun (_ : Unit) => True) (fun (_ : Unit) (t : State) => wB E (va_A [(h0, .inr (12, mO q))] sz) [(h0, .inr (12, (mO q).set 3 (.int 4)))] t) (va_A [(h0, .inr (12, mO q))] sz)) 0 0 (va_A [(h0, .inr (12, mO q))] sz) := by
  refine Met.ofW (cc := cX12_scan) (maxL := 4) (ret := none) (by decide) rfl ?_
  intro p e s m args below meth c s₁ B hml hv
  obtain ⟨rfl, hsz, hP, hkn, hD0, hst⟩ := hv
  have hx := B.exec
  have hb := B.bytes
  have hr := B.returns
  have hts := atoms_spec (ws := wsX12_scan) B.pre
  have hown : s.vm.findClass RX12 = some m.cls := findClass_of_methodNamed B.named
  have hlocks := B.notSynchronized
  subst hsz
  have hD := hD0.self (sz := s.heap.size)
  have hK := hkn.1
  have hAO := hkn.2.2
  generalize hAe : va_A [(h0, .inr (12, mO q))] s.heap.size = A at hD hst ⊢
  have hA : ∀ q : Nat, s.heap.size ≤ q → A q := fun q h => by rw [← hAe]; exact Or.inr h
  have hS : va_S A s.heap s.heap [] := va_S.rf
  have hP : va_P E.1 vwCl [(h0, .inr (12, mO q))] s.heap := hP
  have hl := lv_entry ([.ref h0]) (n := 4) (Nat.le_of_ble_eq_true rfl)
  rw [lg_entry_eq]
  generalize (lg_sl ([.ref h0]) ++ List.replicate (4 - (lg_sl ([.ref h0])).length) Slot.unset).toArray = ls at hl ⊢
  have hl : lv_has ls 4 [(0, .ref h0)] := hl
  have fl174 := hts (.fieldLink RX12 174 "BoatsHomeModel" "end" "I") (by decide +kernel)
  have fl177 := hts (.fieldLink RX12 177 "BoatsHomeModel" "at" "I") (by decide +kernel)
  have fl180 := hts (.fieldLink RX12 180 "BoatsHomeModel" "sort" "I") (by decide +kernel)
  have fl191 := hts (.fieldLink RX12 191 "BoatsHomeModel" "what" "I") (by decide +kernel)
  have fl197 := hts (.fieldLink RX12 197 "BoatsHomeModel" "worth" "I") (by decide +kernel)
  have inX12 : ∀ w ∈ u_ws RX12 TX12 59, w ∈ wsX12_scan := by decide +kernel
  refine lv_aload_n hx hb dX12_scan_0 rfl (lv_at hl 0 rfl) ?_
  refine va_get (D := E.1) (ci := 12) (v := .int 0) (C := RX12) (T := TX12) (N := 59) hx hb hts inX12 hown hK hP 0 rfl rfl 6 (by decide) fl174 (fun _ h9 => h9) rfl dX12_scan_1 ?_
  refine lv_istore_n (lv' := [(1, .int 0), (0, .ref h0)]) hx hb dX12_scan_4 rfl hl (by decide) rfl (fun ls hl => ?_)
  refine lv_aload_n hx hb dX12_scan_5 rfl (lv_at hl 1 rfl) ?_
  refine lv_iload_n hx hb dX12_scan_6 rfl (lv_at hl 0 rfl) ?_
  have hPc := hP.sub (ws' := [(h0, .inr (12, mO q))]) [0] rfl
  have hDc := hD.sub (ws' := [(h0, .inr (12, mO q))]) [0] (by decide) rfl
  have hFc := va_free (wc := [(h0, .inr (12, mO q))]) hD hS hA [0] rfl
  refine va_calli (va_runV (As := [.int 0]) (rest := []) ⟨hx, hb, hml, hown, hts⟩ (c_X12_see l E h0 q s.heap.size ) (cwV 1 hts gX12_scan_X12_see rfl rfl rfl (by decide +kernel) ⟨Nat.le_of_ble_eq_true rfl, Nat.le_of_ble_eq_true rfl⟩) ⟨pcW_blind, va_recv hK hPc (ci := 12) (q0 := 0) rfl rfl, (pcW_pre hPc hkn hDc hst hS hFc)⟩ rfl rfl hl.1 rfl (lv_room (Nat.le_of_ble_eq_true rfl)) dX12_scan_7 ⟨Nat.le_of_ble_eq_true rfl, Nat.le_of_ble_eq_true rfl⟩) hS (fun q _ h => hFc q h) hFc (fun r1 u t H1 locs ht hvm hw2 hB hz1 hk1 hS => ?_)
  obtain ⟨hP1, hD1⟩ := hB
  rw [ht] at hP1
  try dsimp only at hw2
  obtain ⟨hP, hD⟩ := va_join (wr := []) (w1 := [(h0, .inr (12, mO q))]) hP hD [0] [] rfl rfl (by decide) (by decide) hk1 hFc hP1 hD1
  generalize H1 = H at hP hS ⊢
  have hP : va_P E.1 vwCl [(h0, .inr (12, mO q))] H := hP
  have hD : va_D A [(h0, .inr (12, mO q))] := hD
  obtain rfl : r1 = (-1) := hw2
  refine lv_bipush (v := 32) hx hb dX12_scan_10 (by decide) ?_
  refine lv_icmp_eq (tgt := 25) hx hb dX12_scan_12 (by decide) (fun c9 => absurd c9 (by decide)) (fun _ => ?_)
  refine lv_aload_n hx hb dX12_scan_15 rfl (lv_at hl 1 rfl) ?_
  refine lv_iload_n hx hb dX12_scan_16 rfl (lv_at hl 0 rfl) ?_
  have hPc := hP.sub (ws' := [(h0, .inr (12, mO q))]) [0] rfl
  have hDc := hD.sub (ws' := [(h0, .inr (12, mO q))]) [0] (by decide) rfl
  have hFc := va_free (wc := [(h0, .inr (12, mO q))]) hD hS hA [0] rfl
  refine va_calli (va_runV (As := [.int 0]) (rest := []) ⟨hx, hb, hml, hown, hts⟩ (c_X12_see l E h0 q H.size ) (cwV 1 hts gX12_scan_X12_see rfl rfl rfl (by decide +kernel) ⟨Nat.le_of_ble_eq_true rfl, Nat.le_of_ble_eq_true rfl⟩) ⟨pcW_blind, va_recv hK hPc (ci := 12) (q0 := 0) rfl rfl, (pcW_pre hPc hkn hDc hst hS hFc)⟩ rfl rfl hl.1 rfl (lv_room (Nat.le_of_ble_eq_true rfl)) dX12_scan_17 ⟨Nat.le_of_ble_eq_true rfl, Nat.le_of_ble_eq_true rfl⟩) hS (fun q _ h => hFc q h) hFc (fun r3 u t H1 locs ht hvm hw4 hB hz1 hk1 hS => ?_)
  obtain ⟨hP1, hD1⟩ := hB
  rw [ht] at hP1
  try dsimp only at hw4
  obtain ⟨hP, hD⟩ := va_join (wr := []) (w1 := [(h0, .inr (12, mO q))]) hP hD [0] [] rfl rfl (by decide) (by decide) hk1 hFc hP1 hD1
  generalize H1 = H at hP hS ⊢
  have hP : va_P E.1 vwCl [(h0, .inr (12, mO q))] H := hP
  have hD : va_D A [(h0, .inr (12, mO q))] := hD
  obtain rfl : r3 = (-1) := hw4
  refine lv_bipush (v := 10) hx hb dX12_scan_20 (by decide) ?_
  refine lv_icmp_ne (tgt := 31) hx hb dX12_scan_22 (by decide) (fun _ => ?_) (fun c9 => absurd c9 (by decide))
  refine lv_aload_n hx hb dX12_scan_31 rfl (lv_at hl 1 rfl) ?_
  refine lv_iload_n hx hb dX12_scan_32 rfl (lv_at hl 0 rfl) ?_
  refine va_put (D := E.1) (ci := 12) (v := .int 0) (ty := .int) (C := RX12) (T := TX12) (N := 59) hx hb hts inX12 tyX12 tyX12_ok nmX12 hown hK hP hD hS 0 rfl rfl 5 (by decide) fl177 (fun _ h9 => h9) rfl (by decide +kernel) rfl rfl (Nat.le_of_ble_eq_true rfl) dX12_scan_33 (fun H locs hP hD hS => ?_)
  have hP : va_P E.1 vwCl [(h0, .inr (12, mO q))] H := hP
  have hD : va_D A [(h0, .inr (12, mO q))] := hD
  refine lv_aload_n hx hb dX12_scan_36 rfl (lv_at hl 1 rfl) ?_
  refine lv_iload_n hx hb dX12_scan_37 rfl (lv_at hl 0 rfl) ?_
  have hPc := hP.sub (ws' := [(h0, .inr (12, mO q))]) [0] rfl
  have hDc := hD.sub (ws' := [(h0, .inr (12, mO q))]) [0] (by decide) rfl
  have hFc := va_free (wc := [(h0, .inr (12, mO q))]) hD hS hA [0] rfl
  refine va_calli (va_runV (As := [.int 0]) (rest := []) ⟨hx, hb, hml, hown, hts⟩ (c_X12_see l E h0 q H.size ) (cwV 1 hts gX12_scan_X12_see rfl rfl rfl (by decide +kernel) ⟨Nat.le_of_ble_eq_true rfl, Nat.le_of_ble_eq_true rfl⟩) ⟨pcW_blind, va_recv hK hPc (ci := 12) (q0 := 0) rfl rfl, (pcW_pre hPc hkn hDc hst hS hFc)⟩ rfl rfl hl.1 rfl (lv_room (Nat.le_of_ble_eq_true rfl)) dX12_scan_38 ⟨Nat.le_of_ble_eq_true rfl, Nat.le_of_ble_eq_true rfl⟩) hS (fun q _ h => hFc q h) hFc (fun r5 u t H1 locs ht hvm hw6 hB hz1 hk1 hS => ?_)
  obtain ⟨hP1, hD1⟩ := hB
  rw [ht] at hP1
  try dsimp only at hw6
  obtain ⟨hP, hD⟩ := va_join (wr := []) (w1 := [(h0, .inr (12, mO q))]) hP hD [0] [] rfl rfl (by decide) (by decide) hk1 hFc hP1 hD1
  generalize H1 = H at hP hS ⊢
  have hP : va_P E.1 vwCl [(h0, .inr (12, mO q))] H := hP
  have hD : va_D A [(h0, .inr (12, mO q))] := hD
  obtain rfl : r5 = (-1) := hw6
  refine lv_istore_n (lv' := [(2, .int (-1)), (1, .int 0), (0, .ref h0)]) hx hb dX12_scan_41 rfl hl (by decide) rfl (fun ls hl => ?_)
  refine lv_iload_n hx hb dX12_scan_42 rfl (lv_at hl 1 rfl) ?_
  refine lv_iconst (v := 1) hx hb dX12_scan_43 (by decide) ?_
  refine lv_iadd hx hb dX12_scan_44 ?_
  refine lv_topi (fun x7 ex7 => ?_)
  obtain rfl : x7 = 1 := ex7.trans (by decide +kernel)
  refine lv_istore_n (lv' := [(3, .int 1), (2, .int (-1)), (1, .int 0), (0, .ref h0)]) hx hb dX12_scan_45 rfl hl (by decide) rfl (fun ls hl => ?_)
  refine lv_iload_n hx hb dX12_scan_46 rfl (lv_at hl 1 rfl) ?_
  refine lv_iconst (v := (-1)) hx hb dX12_scan_47 (by decide) ?_
  refine lv_icmp_ne (tgt := 61) hx hb dX12_scan_48 (by decide) (fun c9 => absurd c9 (by decide)) (fun _ => ?_)
  refine lv_aload_n hx hb dX12_scan_51 rfl (lv_at hl 3 rfl) ?_
  refine lv_iconst (v := 4) hx hb dX12_scan_52 (by decide) ?_
  refine va_put (D := E.1) (ci := 12) (v := .int 4) (ty := .int) (C := RX12) (T := TX12) (N := 59) hx hb hts inX12 tyX12 tyX12_ok nmX12 hown hK hP hD hS 0 rfl rfl 3 (by decide) fl180 (fun _ h9 => h9) rfl (by decide +kernel) rfl rfl (Nat.le_of_ble_eq_true rfl) dX12_scan_53 (fun H locs hP hD hS => ?_)
  have hP : va_P E.1 vwCl [(h0, .inr (12, (mO q).set 3 (.int 4)))] H := hP
  have hD : va_D A [(h0, .inr (12, (mO q).set 3 (.int 4)))] := hD
  refine lv_iload_n hx hb dX12_scan_56 rfl (lv_at hl 2 rfl) ?_
  refine lv_istore_n (lv' := [(3, .int 0), (2, .int (-1)), (1, .int 0), (0, .ref h0)]) hx hb dX12_scan_57 rfl hl (by decide) rfl (fun ls hl => ?_)
  refine lv_goto (tgt := 217) hx hb dX12_scan_58 (by decide) ?_
  refine lv_aload_n hx hb dX12_scan_217 rfl (lv_at hl 3 rfl) ?_
  refine lv_iload_n hx hb dX12_scan_218 rfl (lv_at hl 0 rfl) ?_
  refine va_put (D := E.1) (ci := 12) (v := .int 0) (ty := .int) (C := RX12) (T := TX12) (N := 59) hx hb hts inX12 tyX12 tyX12_ok nmX12 hown hK hP hD hS 0 rfl rfl 6 (by decide) fl174 (fun _ h9 => h9) rfl (by decide +kernel) rfl rfl (Nat.le_of_ble_eq_true rfl) dX12_scan_219 (fun H locs hP hD hS => ?_)
  have hP : va_P E.1 vwCl [(h0, .inr (12, (mO q).set 3 (.int 4)))] H := hP
  have hD : va_D A [(h0, .inr (12, (mO q).set 3 (.int 4)))] := hD
  have hP9 := hP.sub (ws' := [(h0, .inr (12, (mO q).set 3 (.int 4)))]) [0] rfl
  have hD9 := hD.sub (ws' := [(h0, .inr (12, (mO q).set 3 (.int 4)))]) [0] (by decide) rfl
  exact W.vret hx hb hr (fun t ht hW => ⟨⟨(), rfl, trivial, by rw [ht]; exact hP9, hD9⟩, hS.F ht⟩) hS.2.2 dX12_scan_222
set_option maxHeartbeats 4000000 in
set_option maxRecDepth 100000 in
theorem lp_m_skip {p : Program} {l : Launch} {e : Env} {R : Room} {s : State} {m : MethodId} {args : Array Value} {below : List Frame} {meth : Method} {c : Code} {cells slots : Nat} {Q : State → Prop} {A : Nat → Prop} (E : vE) (h0 : Nat) (qf : Nat) (fs : List Value) (wr : va_W) (b : Int32) (hx : p.tables.exec = Jvm.exec) (hb : c.code = cX12_skipper) (hml : c.maxLocals = 3) (hown : s.vm.findClass RX12 = some m.cls) (hts : ∀ w ∈ wsX12_skipper, w.before args s = true) (hkn : kn E s) (hst : st A s s.heap) (hA : ∀ q : Nat, s.heap.size ≤ q → A q) (hfs : fs[10]? = some (.ref qf)) (hb5 : inR b 0 5 = true) (kk : ∀ (H : Heap) (locs : List Loc) (ls : Array Slot), va_P E.1 vwCl ((h0, .inr (12, fs)) :: (qf, .inl (E.2 0, 336, .inl (fun _ => 0))) :: wr) H → va_D A ((h0, .inr (12, fs)) :: (qf, .inl (E.2 0, 336, .inl (fun _ => 0))) :: wr) → va_S A s.heap H locs → lv_has ls 3 [(0, .ref h0), (1, .int b)] → W p l e R s m args below meth c H locs cells slots Q (F0 m 101 ls [])) : ∀ (n0 : Nat) (i : Nat) (H : Heap) (locs : List Loc) (ls : Array Slot), 48 - i < n0 → (i ≤ 48) → va_P E.1 vwCl ((h0, .inr (12, fs)) :: (qf, .inl (E.2 0, 336, .inl (fun _ => 0))) :: wr) H → va_D A ((h0, .inr (12, fs)) :: (qf, .inl (E.2 0, 336, .inl (fun _ => 0))) :: wr) → va_S A s.heap H locs → lv_has ls 3 [(0, .ref h0), (1, .int b), (2, .int (nI i))] → W p l e R s m args below meth c H locs cells slots Q (F0 m 68 ls []) := by
  have hK := hkn.1
  have hAO := hkn.2.2
  have fl13 := hts (.fieldLink RX12 13 "BoatsHomeModel" "faultPlace" "I") (by decide +kernel)
  have fl17 := hts (.fieldLink RX12 17 "BoatsHomeModel" "rules" "[I") (by decide +kernel)
  have fl21 := hts (.fieldLink RX12 21 "BoatsHomeModel" "ruleMany" "[I") (by decide +kernel)
  have fl180 := hts (.fieldLink RX12 180 "BoatsHomeModel" "sort" "I") (by decide +kernel)
  have fl200 := hts (.fieldLink RX12 200 "BoatsHomeModel" "faultKind" "I") (by decide +kernel)
  have inX12 : ∀ w ∈ u_ws RX12 TX12 59, w ∈ wsX12_skipper := by decide +kernel
  intro n0
  induction n0 with
  | zero =>
    intro i H locs ls hn0
    exact absurd hn0 (Nat.not_lt_zero _)
  | succ n0 ih =>
    intro i H locs ls hn0 hi hP hD hS hl
    refine lv_iload_n hx hb dX12_skipper_68 rfl (lv_at hl 2 rfl) ?_
    refine lv_bipush (v := 48) hx hb dX12_skipper_69 (by decide) ?_
    refine lv_icmp_ge (tgt := 101) hx hb dX12_skipper_71 (by decide) (fun c1 => ?_) (fun c1 => ?_)
    · exact kk  _ _ _  hP hD hS (lv_sub hl [0, 1] rfl)
    · have hlt : i < 48 := by
        rcases Nat.lt_or_ge i 48 with q | q
        · exact q
        · exact absurd (show (48 : Int32) ≤ nI i from nI_le (a := 48) q (by omega)) c1
      refine lv_aload_n hx hb dX12_skipper_74 rfl (lv_at hl 0 rfl) ?_
      refine va_get (D := E.1) (ci := 12) (v := .ref qf) (C := RX12) (T := TX12) (N := 59) hx hb hts inX12 hown hK hP 0 rfl rfl 10 (by decide) fl17 (fun _ h9 => h9) hfs dX12_skipper_75 ?_
      refine lv_bipush (v := 48) hx hb dX12_skipper_78 (by decide) ?_
      refine lv_iload_n hx hb dX12_skipper_80 rfl (lv_at hl 1 rfl) ?_
      refine lv_imul hx hb dX12_skipper_81 ?_
      refine lv_topi (fun x2 ex2 => ?_)
      refine lv_iload_n hx hb dX12_skipper_82 rfl (lv_at hl 2 rfl) ?_
      refine lv_iadd hx hb dX12_skipper_83 ?_
      refine lv_topi (fun x3 ex3 => ?_)
      refine lv_aload_n hx hb dX12_skipper_84 rfl (lv_at hl 0 rfl) ?_
      refine va_get (D := E.1) (ci := 12) (v := .ref qf) (C := RX12) (T := TX12) (N := 59) hx hb hts inX12 hown hK hP 0 rfl rfl 10 (by decide) fl17 (fun _ h9 => h9) hfs dX12_skipper_85 ?_
      refine lv_sipush (v := 288) hx hb dX12_skipper_88 (by decide) ?_
      refine lv_iload_n hx hb dX12_skipper_91 rfl (lv_at hl 2 rfl) ?_
      refine lv_iadd hx hb dX12_skipper_92 ?_
      refine lv_topi (fun x4 ex4 => ?_)
      obtain rfl : x4 = nI (288 + i) := ex4.trans (nI_add 288 i)
      have hi5 : vp_in (nI (288 + i)) 336 := vp_in_nI (by omega) (by decide)
      refine va_iald hx hb hK hP 1 0 rfl rfl hi5 dX12_skipper_93 ?_
      have hi6 : vp_in x3 336 := by rw [ex3, ex2]; exact ix_cp (M := 48) (n := 48) rfl hb5 hlt (by decide) (by decide)
      refine va_iast hx hb hK hP hD hS 1 0 rfl rfl hi6 dX12_skipper_94 (fun H locs hP hD hS => ?_)
      have hP : va_P E.1 vwCl ((h0, .inr (12, fs)) :: (qf, .inl (E.2 0, 336, .inl (upd (fun _ => 0) x3.toNatClampNeg 0))) :: wr) H := hP
      have hD : va_D A ((h0, .inr (12, fs)) :: (qf, .inl (E.2 0, 336, .inl (upd (fun _ => 0) x3.toNatClampNeg 0))) :: wr) := hD
      rw [upd_same] at hP hD
      have hP : va_P E.1 vwCl ((h0, .inr (12, fs)) :: (qf, .inl (E.2 0, 336, .inl (fun _ => 0))) :: wr) H := hP
      have hD : va_D A ((h0, .inr (12, fs)) :: (qf, .inl (E.2 0, 336, .inl (fun _ => 0))) :: wr) := hD
      refine lv_iinc (v := (nI (i + 1))) (lv' := [(2, .int (nI (i + 1))), (0, .ref h0), (1, .int b)]) hx hb dX12_skipper_95 hl (k := 2) rfl (show nI i + 1 = nI (i + 1) from nI_1 i) (by decide) rfl (fun ls hl => ?_)
      refine lv_goto (tgt := 68) hx hb dX12_skipper_98 (by decide) ?_
      exact ih (i + 1) _ _ _ (by omega) (by omega) hP hD hS (lv_sub hl [1, 2, 0] rfl)
set_option maxHeartbeats 4000000 in
set_option maxRecDepth 100000 in
theorem c_X12_skipper (l : Launch) (E : vE) (h0 : Nat) (q : Nat → Nat) (b : Int32) (sz : Nat) : Met l yX12_skipper wsX12_skipper ({ frames := 2, cells := 0, slots := 0, locals := 44 }) (pcW E [.ref h0, .int b] sz [(h0, .inr (12, mO q)), (q 11, .inl (E.2 0, 7, .inl (fun _ => 0))), (q 10, .inl (E.2 0, 336, .inl (fun _ => 0)))]) (va_Qi (fun (r : Int32) (_ : Unit) => r = cond (inR b 0 5) 0 (-2)) (fun (_ : Unit) (t : State) => wB E (va_A [(h0, .inr (12, mO q)), (q 11, .inl (E.2 0, 7, .inl (fun _ => 0))), (q 10, .inl (E.2 0, 336, .inl (fun _ => 0)))] sz) [] t) (va_A [(h0, .inr (12, mO q)), (q 11, .inl (E.2 0, 7, .inl (fun _ => 0))), (q 10, .inl (E.2 0, 336, .inl (fun _ => 0)))] sz)) 0 0 (va_A [(h0, .inr (12, mO q)), (q 11, .inl (E.2 0, 7, .inl (fun _ => 0))), (q 10, .inl (E.2 0, 336, .inl (fun _ => 0)))] sz) := by
  refine Met.ofW (cc := cX12_skipper) (maxL := 3) (ret := (some .int)) (by decide) rfl ?_
  intro p e s m args below meth c s₁ B hml hv
  obtain ⟨rfl, hsz, hP, hkn, hD0, hst⟩ := hv
  have hx := B.exec
  have hb := B.bytes
  have hr := B.returns
  have hts := atoms_spec (ws := wsX12_skipper) B.pre
  have hown : s.vm.findClass RX12 = some m.cls := findClass_of_methodNamed B.named
  have hlocks := B.notSynchronized
  subst hsz
  have hD := hD0.self (sz := s.heap.size)
  have hK := hkn.1
  have hAO := hkn.2.2
  generalize hAe : va_A [(h0, .inr (12, mO q)), (q 11, .inl (E.2 0, 7, .inl (fun _ => 0))), (q 10, .inl (E.2 0, 336, .inl (fun _ => 0)))] s.heap.size = A at hD hst ⊢
  have hA : ∀ q : Nat, s.heap.size ≤ q → A q := fun q h => by rw [← hAe]; exact Or.inr h
  have hS : va_S A s.heap s.heap [] := va_S.rf
  have hP : va_P E.1 vwCl [(h0, .inr (12, mO q)), (q 11, .inl (E.2 0, 7, .inl (fun _ => 0))), (q 10, .inl (E.2 0, 336, .inl (fun _ => 0)))] s.heap := hP
  have hl := lv_entry ([.ref h0, .int b]) (n := 3) (Nat.le_of_ble_eq_true rfl)
  rw [lg_entry_eq]
  generalize (lg_sl ([.ref h0, .int b]) ++ List.replicate (3 - (lg_sl ([.ref h0, .int b])).length) Slot.unset).toArray = ls at hl ⊢
  have hl : lv_has ls 3 [(0, .ref h0), (1, .int b)] := hl
  have fl13 := hts (.fieldLink RX12 13 "BoatsHomeModel" "faultPlace" "I") (by decide +kernel)
  have fl17 := hts (.fieldLink RX12 17 "BoatsHomeModel" "rules" "[I") (by decide +kernel)
  have fl21 := hts (.fieldLink RX12 21 "BoatsHomeModel" "ruleMany" "[I") (by decide +kernel)
  have fl180 := hts (.fieldLink RX12 180 "BoatsHomeModel" "sort" "I") (by decide +kernel)
  have fl200 := hts (.fieldLink RX12 200 "BoatsHomeModel" "faultKind" "I") (by decide +kernel)
  have inX12 : ∀ w ∈ u_ws RX12 TX12 59, w ∈ wsX12_skipper := by decide +kernel
  refine lv_aload_n hx hb dX12_skipper_0 rfl (lv_at hl 0 rfl) ?_
  have hPc := hP.sub (ws' := [(h0, .inr (12, mO q))]) [0] rfl
  have hDc := hD.sub (ws' := [(h0, .inr (12, mO q))]) [0] (by decide) rfl
  have hFc := va_free (wc := [(h0, .inr (12, mO q))]) hD hS hA [0] rfl
  refine va_callv (va_runV (As := []) (rest := []) ⟨hx, hb, hml, hown, hts⟩ (c_X12_taking l E h0 q s.heap.size ) (cwV 0 hts gX12_skipper_X12_taking rfl rfl rfl (by decide +kernel) ⟨Nat.le_of_ble_eq_true rfl, Nat.le_of_ble_eq_true rfl⟩) ⟨pcW_blind, va_recv hK hPc (ci := 12) (q0 := 0) rfl rfl, (pcW_pre hPc hkn hDc hst hS hFc)⟩ rfl rfl hl.1 rfl (lv_room (Nat.le_of_ble_eq_true rfl)) dX12_skipper_1 ⟨Nat.le_of_ble_eq_true rfl, Nat.le_of_ble_eq_true rfl⟩) hS (fun q _ h => hFc q h) hFc (fun u t H1 locs ht hvm hw2 hB hz1 hk1 hS => ?_)
  obtain ⟨hP1, hD1⟩ := hB
  rw [ht] at hP1
  try dsimp only at hw2
  obtain ⟨hP, hD⟩ := va_join (wr := [(q 11, .inl (E.2 0, 7, .inl (fun _ => 0))), (q 10, .inl (E.2 0, 336, .inl (fun _ => 0)))]) (w1 := [(h0, .inr (12, mO q))]) hP hD [0] [1, 2] rfl rfl (by decide) (by decide) hk1 hFc hP1 hD1
  generalize H1 = H at hP hS ⊢
  have hP : va_P E.1 vwCl [(q 11, .inl (E.2 0, 7, .inl (fun _ => 0))), (q 10, .inl (E.2 0, 336, .inl (fun _ => 0))), (h0, .inr (12, mO q))] H := hP
  have hD : va_D A [(q 11, .inl (E.2 0, 7, .inl (fun _ => 0))), (q 10, .inl (E.2 0, 336, .inl (fun _ => 0))), (h0, .inr (12, mO q))] := hD
  refine lv_iload_n hx hb dX12_skipper_4 rfl (lv_at hl 1 rfl) ?_
  have hPc := hP.sub (ws' := []) [] rfl
  have hDc := hD.sub (ws' := []) [] (by decide) rfl
  have hFc := va_free (wc := []) hD hS hA [] rfl
  refine va_calli (va_runS (As := [.int b]) (rest := []) ⟨hx, hb, hml, hown, hts⟩ (c_X12_isBoat l E b H.size ) (va_cwS 1 hts gX12_skipper_X12_isBoat rfl rfl rfl (by decide +kernel) ⟨Nat.le_of_ble_eq_true rfl, Nat.le_of_ble_eq_true rfl⟩) ⟨pcW_blind, (pcW_pre hPc hkn hDc hst hS hFc)⟩ rfl rfl hl.1 rfl (lv_room (Nat.le_of_ble_eq_true rfl)) dX12_skipper_5 ⟨Nat.le_of_ble_eq_true rfl, Nat.le_of_ble_eq_true rfl⟩) hS (fun q _ h => hFc q h) hFc (fun r3 u t H1 locs ht hvm hw4 hB hz1 hk1 hS => ?_)
  obtain ⟨hP1, hD1⟩ := hB
  rw [ht] at hP1
  try dsimp only at hw4
  obtain ⟨hP, hD⟩ := va_join (wr := [(q 11, .inl (E.2 0, 7, .inl (fun _ => 0))), (q 10, .inl (E.2 0, 336, .inl (fun _ => 0))), (h0, .inr (12, mO q))]) (w1 := []) hP hD [] [0, 1, 2] rfl rfl (by decide) (by decide) hk1 hFc hP1 hD1
  generalize H1 = H at hP hS ⊢
  have hP : va_P E.1 vwCl [(q 11, .inl (E.2 0, 7, .inl (fun _ => 0))), (q 10, .inl (E.2 0, 336, .inl (fun _ => 0))), (h0, .inr (12, mO q))] H := hP
  have hD : va_D A [(q 11, .inl (E.2 0, 7, .inl (fun _ => 0))), (q 10, .inl (E.2 0, 336, .inl (fun _ => 0))), (h0, .inr (12, mO q))] := hD
  refine lv_if_ne (tgt := 14) hx hb dX12_skipper_8 (by decide) (fun c5 => ?_) (fun c5 => ?_)
  · have b6 : inR b 0 5 = true := bn hw4 c5
    refine lv_aload_n hx hb dX12_skipper_14 rfl (lv_at hl 0 rfl) ?_
    refine lv_iconst (v := 0) hx hb dX12_skipper_15 (by decide) ?_
    refine va_put (D := E.1) (ci := 12) (v := .int 0) (ty := .int) (C := RX12) (T := TX12) (N := 59) hx hb hts inX12 tyX12 tyX12_ok nmX12 hown hK hP hD hS 2 rfl rfl 8 (by decide) fl200 (fun _ h9 => h9) rfl (by decide +kernel) rfl rfl (Nat.le_of_ble_eq_true rfl) dX12_skipper_16 (fun H locs hP hD hS => ?_)
    have hP : va_P E.1 vwCl [(q 11, .inl (E.2 0, 7, .inl (fun _ => 0))), (q 10, .inl (E.2 0, 336, .inl (fun _ => 0))), (h0, .inr (12, mO q))] H := hP
    have hD : va_D A [(q 11, .inl (E.2 0, 7, .inl (fun _ => 0))), (q 10, .inl (E.2 0, 336, .inl (fun _ => 0))), (h0, .inr (12, mO q))] := hD
    refine lv_aload_n hx hb dX12_skipper_19 rfl (lv_at hl 0 rfl) ?_
    refine lv_iconst (v := (-1)) hx hb dX12_skipper_20 (by decide) ?_
    refine va_put (D := E.1) (ci := 12) (v := .int (-1)) (ty := .int) (C := RX12) (T := TX12) (N := 59) hx hb hts inX12 tyX12 tyX12_ok nmX12 hown hK hP hD hS 2 rfl rfl 9 (by decide) fl13 (fun _ h9 => h9) rfl (by decide +kernel) rfl rfl (Nat.le_of_ble_eq_true rfl) dX12_skipper_21 (fun H locs hP hD hS => ?_)
    have hP : va_P E.1 vwCl [(q 11, .inl (E.2 0, 7, .inl (fun _ => 0))), (q 10, .inl (E.2 0, 336, .inl (fun _ => 0))), (h0, .inr (12, mO q))] H := hP
    have hD : va_D A [(q 11, .inl (E.2 0, 7, .inl (fun _ => 0))), (q 10, .inl (E.2 0, 336, .inl (fun _ => 0))), (h0, .inr (12, mO q))] := hD
    refine lv_aload_n hx hb dX12_skipper_24 rfl (lv_at hl 0 rfl) ?_
    refine va_get (D := E.1) (ci := 12) (v := .ref (q 11)) (C := RX12) (T := TX12) (N := 59) hx hb hts inX12 hown hK hP 2 rfl rfl 11 (by decide) fl21 (fun _ h9 => h9) rfl dX12_skipper_25 ?_
    refine lv_bipush (v := 6) hx hb dX12_skipper_28 (by decide) ?_
    refine lv_iconst (v := 0) hx hb dX12_skipper_30 (by decide) ?_
    refine va_iast hx hb hK hP hD hS 0 0 rfl rfl (show vp_in 6 7 from by unfold vp_in; decide) dX12_skipper_31 (fun H locs hP hD hS => ?_)
    have hP : va_P E.1 vwCl [(q 11, .inl (E.2 0, 7, .inl (upd (fun _ => 0) (Int32.toNatClampNeg 6) 0))), (q 10, .inl (E.2 0, 336, .inl (fun _ => 0))), (h0, .inr (12, mO q))] H := hP
    have hD : va_D A [(q 11, .inl (E.2 0, 7, .inl (upd (fun _ => 0) (Int32.toNatClampNeg 6) 0))), (q 10, .inl (E.2 0, 336, .inl (fun _ => 0))), (h0, .inr (12, mO q))] := hD
    rw [upd_same] at hP hD
    have hP : va_P E.1 vwCl [(q 11, .inl (E.2 0, 7, .inl (fun _ => 0))), (q 10, .inl (E.2 0, 336, .inl (fun _ => 0))), (h0, .inr (12, mO q))] H := hP
    have hD : va_D A [(q 11, .inl (E.2 0, 7, .inl (fun _ => 0))), (q 10, .inl (E.2 0, 336, .inl (fun _ => 0))), (h0, .inr (12, mO q))] := hD
    refine lv_aload_n hx hb dX12_skipper_32 rfl (lv_at hl 0 rfl) ?_
    have hPc := hP.sub (ws' := [(h0, .inr (12, mO q))]) [2] rfl
    have hDc := hD.sub (ws' := [(h0, .inr (12, mO q))]) [2] (by decide) rfl
    have hFc := va_free (wc := [(h0, .inr (12, mO q))]) hD hS hA [2] rfl
    refine va_callv (va_runV (As := []) (rest := []) ⟨hx, hb, hml, hown, hts⟩ (c_X12_scan l E h0 q H.size ) (cwV 0 hts gX12_skipper_X12_scan rfl rfl rfl (by decide +kernel) ⟨Nat.le_of_ble_eq_true rfl, Nat.le_of_ble_eq_true rfl⟩) ⟨pcW_blind, va_recv hK hPc (ci := 12) (q0 := 0) rfl rfl, (pcW_pre hPc hkn hDc hst hS hFc)⟩ rfl rfl hl.1 rfl (lv_room (Nat.le_of_ble_eq_true rfl)) dX12_skipper_33 ⟨Nat.le_of_ble_eq_true rfl, Nat.le_of_ble_eq_true rfl⟩) hS (fun q _ h => hFc q h) hFc (fun u t H1 locs ht hvm hw9 hB hz1 hk1 hS => ?_)
    obtain ⟨hP1, hD1⟩ := hB
    rw [ht] at hP1
    try dsimp only at hw9
    obtain ⟨hP, hD⟩ := va_join (wr := [(q 11, .inl (E.2 0, 7, .inl (fun _ => 0))), (q 10, .inl (E.2 0, 336, .inl (fun _ => 0)))]) (w1 := [(h0, .inr (12, (mO q).set 3 (.int 4)))]) hP hD [2] [0, 1] rfl rfl (by decide) (by decide) hk1 hFc hP1 hD1
    generalize H1 = H at hP hS ⊢
    have hP : va_P E.1 vwCl [(q 11, .inl (E.2 0, 7, .inl (fun _ => 0))), (q 10, .inl (E.2 0, 336, .inl (fun _ => 0))), (h0, .inr (12, (mO q).set 3 (.int 4)))] H := hP
    have hD : va_D A [(q 11, .inl (E.2 0, 7, .inl (fun _ => 0))), (q 10, .inl (E.2 0, 336, .inl (fun _ => 0))), (h0, .inr (12, (mO q).set 3 (.int 4)))] := hD
    refine lv_aload_n hx hb dX12_skipper_36 rfl (lv_at hl 0 rfl) ?_
    refine va_get (D := E.1) (ci := 12) (v := .int 4) (C := RX12) (T := TX12) (N := 59) hx hb hts inX12 hown hK hP 2 rfl rfl 3 (by decide) fl180 (fun _ h9 => h9) rfl dX12_skipper_37 ?_
    refine lv_iconst (v := 4) hx hb dX12_skipper_40 (by decide) ?_
    refine lv_icmp_eq (tgt := 53) hx hb dX12_skipper_41 (by decide) (fun _ => ?_) (fun c9 => absurd c9 (by decide))
    refine lv_aload_n hx hb dX12_skipper_53 rfl (lv_at hl 0 rfl) ?_
    refine va_get (D := E.1) (ci := 12) (v := .ref (q 11)) (C := RX12) (T := TX12) (N := 59) hx hb hts inX12 hown hK hP 2 rfl rfl 11 (by decide) fl21 (fun _ h9 => h9) rfl dX12_skipper_54 ?_
    refine lv_iload_n hx hb dX12_skipper_57 rfl (lv_at hl 1 rfl) ?_
    refine lv_aload_n hx hb dX12_skipper_58 rfl (lv_at hl 0 rfl) ?_
    refine va_get (D := E.1) (ci := 12) (v := .ref (q 11)) (C := RX12) (T := TX12) (N := 59) hx hb hts inX12 hown hK hP 2 rfl rfl 11 (by decide) fl21 (fun _ h9 => h9) rfl dX12_skipper_59 ?_
    refine lv_bipush (v := 6) hx hb dX12_skipper_62 (by decide) ?_
    refine va_iald hx hb hK hP 0 0 rfl rfl (show vp_in 6 7 from by unfold vp_in; decide) dX12_skipper_64 ?_
    have hi10 : vp_in b 7 := by have := inR_in (n := 6) (by decide) b6; rw [vp_in_iff] at this ⊢; omega
    refine va_iast hx hb hK hP hD hS 0 0 rfl rfl hi10 dX12_skipper_65 (fun H locs hP hD hS => ?_)
    have hP : va_P E.1 vwCl [(q 11, .inl (E.2 0, 7, .inl (upd (fun _ => 0) b.toNatClampNeg 0))), (q 10, .inl (E.2 0, 336, .inl (fun _ => 0))), (h0, .inr (12, (mO q).set 3 (.int 4)))] H := hP
    have hD : va_D A [(q 11, .inl (E.2 0, 7, .inl (upd (fun _ => 0) b.toNatClampNeg 0))), (q 10, .inl (E.2 0, 336, .inl (fun _ => 0))), (h0, .inr (12, (mO q).set 3 (.int 4)))] := hD
    rw [upd_same] at hP hD
    have hP : va_P E.1 vwCl [(q 11, .inl (E.2 0, 7, .inl (fun _ => 0))), (q 10, .inl (E.2 0, 336, .inl (fun _ => 0))), (h0, .inr (12, (mO q).set 3 (.int 4)))] H := hP
    have hD : va_D A [(q 11, .inl (E.2 0, 7, .inl (fun _ => 0))), (q 10, .inl (E.2 0, 336, .inl (fun _ => 0))), (h0, .inr (12, (mO q).set 3 (.int 4)))] := hD
    refine lv_iconst (v := 0) hx hb dX12_skipper_66 (by decide) ?_
    refine lv_istore_n (lv' := [(2, .int 0), (0, .ref h0), (1, .int b)]) hx hb dX12_skipper_67 rfl hl (by decide) rfl (fun ls hl => ?_)
    have hPl := hP.sub (ws' := [(h0, .inr (12, (mO q).set 3 (.int 4))), (q 10, .inl (E.2 0, 336, .inl (fun _ => 0))), (q 11, .inl (E.2 0, 7, .inl (fun _ => 0)))]) [2, 1, 0] rfl
    have hDl := hD.sub (ws' := [(h0, .inr (12, (mO q).set 3 (.int 4))), (q 10, .inl (E.2 0, 336, .inl (fun _ => 0))), (q 11, .inl (E.2 0, 7, .inl (fun _ => 0)))]) [2, 1, 0] (by decide) rfl
    refine lp_m_skip E h0 (q 10) ((mO q).set 3 (.int 4)) ([(q 11, .inl (E.2 0, 7, .inl (fun _ => 0)))]) b hx hb hml hown hts hkn hst hA rfl b6 (fun  H locs ls  hP hD hS hl => ?_) 100 0 _ _ _ (by omega) (by omega) hPl hDl hS (lv_sub hl [1, 2, 0] rfl)
    have hP : va_P E.1 vwCl [(h0, .inr (12, (mO q).set 3 (.int 4))), (q 10, .inl (E.2 0, 336, .inl (fun _ => 0))), (q 11, .inl (E.2 0, 7, .inl (fun _ => 0)))] H := hP
    have hD : va_D A [(h0, .inr (12, (mO q).set 3 (.int 4))), (q 10, .inl (E.2 0, 336, .inl (fun _ => 0))), (q 11, .inl (E.2 0, 7, .inl (fun _ => 0)))] := hD
    refine lv_aload_n hx hb dX12_skipper_101 rfl (lv_at hl 0 rfl) ?_
    refine va_get (D := E.1) (ci := 12) (v := .ref (q 11)) (C := RX12) (T := TX12) (N := 59) hx hb hts inX12 hown hK hP 0 rfl rfl 11 (by decide) fl21 (fun _ h9 => h9) rfl dX12_skipper_102 ?_
    refine lv_iload_n hx hb dX12_skipper_105 rfl (lv_at hl 1 rfl) ?_
    refine va_iald hx hb hK hP 2 0 rfl rfl hi10 dX12_skipper_106 ?_
    have hP9 := hP.sub (ws' := []) [] rfl
    have hD9 := hD.sub (ws' := []) [] (by decide) rfl
    exact W.iret (v := 0) hx hb hr (fun t ht hW => ⟨⟨0, (), rfl, (by first | (rw [b6]; done) | (rw [b6]; rfl)), by rw [ht]; exact hP9, hD9⟩, hS.F ht⟩) hS.2.2 dX12_skipper_107
  · have b12 : inR b 0 5 = false := bz hw4 c5
    refine lv_bipush (v := (-2)) hx hb dX12_skipper_11 (by decide) ?_
    have hP9 := hP.sub (ws' := []) [] rfl
    have hD9 := hD.sub (ws' := []) [] (by decide) rfl
    exact W.iret (v := (-2)) hx hb hr (fun t ht hW => ⟨⟨(-2), (), rfl, (by first | (rw [b12]; done) | (rw [b12]; rfl)), by rw [ht]; exact hP9, hD9⟩, hS.F ht⟩) hS.2.2 dX12_skipper_13
set_option maxHeartbeats 4000000 in
set_option maxRecDepth 100000 in
theorem lp_m_ins {p : Program} {l : Launch} {e : Env} {R : Room} {s : State} {m : MethodId} {args : Array Value} {below : List Frame} {meth : Method} {c : Code} {cells slots : Nat} {Q : State → Prop} {A : Nat → Prop} (E : vE) (h0 : Nat) (qf : Nat) (fs : List Value) (wr : va_W) (b : Int32) (hx : p.tables.exec = Jvm.exec) (hb : c.code = cX12_insurer) (hml : c.maxLocals = 7) (hown : s.vm.findClass RX12 = some m.cls) (hts : ∀ w ∈ wsX12_insurer, w.before args s = true) (hkn : kn E s) (hst : st A s s.heap) (hA : ∀ q : Nat, s.heap.size ≤ q → A q) (hfs : fs[12]? = some (.ref qf)) (hb5 : inR b 0 5 = true) (kk : ∀ (H : Heap) (locs : List Loc) (ls : Array Slot), va_P E.1 vwCl ((h0, .inr (12, fs)) :: (qf, .inl (E.2 0, 504, .inl (fun _ => 0))) :: wr) H → va_D A ((h0, .inr (12, fs)) :: (qf, .inl (E.2 0, 504, .inl (fun _ => 0))) :: wr) → va_S A s.heap H locs → lv_has ls 7 [(0, .ref h0), (1, .int b), (4, .int 0)] → W p l e R s m args below meth c H locs cells slots Q (F0 m 240 ls [])) : ∀ (n0 : Nat) (i : Nat) (H : Heap) (locs : List Loc) (ls : Array Slot), 72 - i < n0 → (i ≤ 72) → va_P E.1 vwCl ((h0, .inr (12, fs)) :: (qf, .inl (E.2 0, 504, .inl (fun _ => 0))) :: wr) H → va_D A ((h0, .inr (12, fs)) :: (qf, .inl (E.2 0, 504, .inl (fun _ => 0))) :: wr) → va_S A s.heap H locs → lv_has ls 7 [(0, .ref h0), (1, .int b), (4, .int 0), (5, .int (nI i))] → W p l e R s m args below meth c H locs cells slots Q (F0 m 204 ls []) := by
  have hK := hkn.1
  have hAO := hkn.2.2
  have fl13 := hts (.fieldLink RX12 13 "BoatsHomeModel" "faultPlace" "I") (by decide +kernel)
  have fl24 := hts (.fieldLink RX12 24 "BoatsHomeModel" "boxes" "[I") (by decide +kernel)
  have fl27 := hts (.fieldLink RX12 27 "BoatsHomeModel" "boxMany" "[I") (by decide +kernel)
  have fl30 := hts (.fieldLink RX12 30 "BoatsHomeModel" "minCrew" "[I") (by decide +kernel)
  have fl33 := hts (.fieldLink RX12 33 "BoatsHomeModel" "maxForce" "[I") (by decide +kernel)
  have fl180 := hts (.fieldLink RX12 180 "BoatsHomeModel" "sort" "I") (by decide +kernel)
  have fl191 := hts (.fieldLink RX12 191 "BoatsHomeModel" "what" "I") (by decide +kernel)
  have fl200 := hts (.fieldLink RX12 200 "BoatsHomeModel" "faultKind" "I") (by decide +kernel)
  have inX12 : ∀ w ∈ u_ws RX12 TX12 59, w ∈ wsX12_insurer := by decide +kernel
  intro n0
  induction n0 with
  | zero =>
    intro i H locs ls hn0
    exact absurd hn0 (Nat.not_lt_zero _)
  | succ n0 ih =>
    intro i H locs ls hn0 hi hP hD hS hl
    refine lv_iload hx hb dX12_insurer_204 (lv_at hl 3 rfl) ?_
    refine lv_bipush (v := 72) hx hb dX12_insurer_206 (by decide) ?_
    refine lv_icmp_ge (tgt := 240) hx hb dX12_insurer_208 (by decide) (fun c1 => ?_) (fun c1 => ?_)
    · exact kk  _ _ _  hP hD hS (lv_sub hl [0, 1, 2] rfl)
    · have hlt : i < 72 := by
        rcases Nat.lt_or_ge i 72 with q | q
        · exact q
        · exact absurd (show (72 : Int32) ≤ nI i from nI_le (a := 72) q (by omega)) c1
      refine lv_aload_n hx hb dX12_insurer_211 rfl (lv_at hl 0 rfl) ?_
      refine va_get (D := E.1) (ci := 12) (v := .ref qf) (C := RX12) (T := TX12) (N := 59) hx hb hts inX12 hown hK hP 0 rfl rfl 12 (by decide) fl24 (fun _ h9 => h9) hfs dX12_insurer_212 ?_
      refine lv_bipush (v := 72) hx hb dX12_insurer_215 (by decide) ?_
      refine lv_iload_n hx hb dX12_insurer_217 rfl (lv_at hl 1 rfl) ?_
      refine lv_imul hx hb dX12_insurer_218 ?_
      refine lv_topi (fun x2 ex2 => ?_)
      refine lv_iload hx hb dX12_insurer_219 (lv_at hl 3 rfl) ?_
      refine lv_iadd hx hb dX12_insurer_221 ?_
      refine lv_topi (fun x3 ex3 => ?_)
      refine lv_aload_n hx hb dX12_insurer_222 rfl (lv_at hl 0 rfl) ?_
      refine va_get (D := E.1) (ci := 12) (v := .ref qf) (C := RX12) (T := TX12) (N := 59) hx hb hts inX12 hown hK hP 0 rfl rfl 12 (by decide) fl24 (fun _ h9 => h9) hfs dX12_insurer_223 ?_
      refine lv_sipush (v := 432) hx hb dX12_insurer_226 (by decide) ?_
      refine lv_iload hx hb dX12_insurer_229 (lv_at hl 3 rfl) ?_
      refine lv_iadd hx hb dX12_insurer_231 ?_
      refine lv_topi (fun x4 ex4 => ?_)
      obtain rfl : x4 = nI (432 + i) := ex4.trans (nI_add 432 i)
      have hi5 : vp_in (nI (432 + i)) 504 := vp_in_nI (by omega) (by decide)
      refine va_iald hx hb hK hP 1 0 rfl rfl hi5 dX12_insurer_232 ?_
      have hi6 : vp_in x3 504 := by rw [ex3, ex2]; exact ix_cp (M := 72) (n := 72) rfl hb5 hlt (by decide) (by decide)
      refine va_iast hx hb hK hP hD hS 1 0 rfl rfl hi6 dX12_insurer_233 (fun H locs hP hD hS => ?_)
      have hP : va_P E.1 vwCl ((h0, .inr (12, fs)) :: (qf, .inl (E.2 0, 504, .inl (upd (fun _ => 0) x3.toNatClampNeg 0))) :: wr) H := hP
      have hD : va_D A ((h0, .inr (12, fs)) :: (qf, .inl (E.2 0, 504, .inl (upd (fun _ => 0) x3.toNatClampNeg 0))) :: wr) := hD
      rw [upd_same] at hP hD
      have hP : va_P E.1 vwCl ((h0, .inr (12, fs)) :: (qf, .inl (E.2 0, 504, .inl (fun _ => 0))) :: wr) H := hP
      have hD : va_D A ((h0, .inr (12, fs)) :: (qf, .inl (E.2 0, 504, .inl (fun _ => 0))) :: wr) := hD
      refine lv_iinc (v := (nI (i + 1))) (lv' := [(5, .int (nI (i + 1))), (0, .ref h0), (1, .int b), (4, .int 0)]) hx hb dX12_insurer_234 hl (k := 3) rfl (show nI i + 1 = nI (i + 1) from nI_1 i) (by decide) rfl (fun ls hl => ?_)
      refine lv_goto (tgt := 204) hx hb dX12_insurer_237 (by decide) ?_
      exact ih (i + 1) _ _ _ (by omega) (by omega) hP hD hS (lv_sub hl [1, 2, 3, 0] rfl)
set_option maxHeartbeats 4000000 in
set_option maxRecDepth 100000 in
theorem c_X12_insurer (l : Launch) (E : vE) (h0 : Nat) (q : Nat → Nat) (fm : Nat → Int32) (b : Int32) (sz : Nat) : Met l yX12_insurer wsX12_insurer ({ frames := 2, cells := 0, slots := 0, locals := 44 }) (pcW E [.ref h0, .int b] sz [(h0, .inr (12, mO q)), (q 13, .inl (E.2 0, 7, .inl (fun _ => 0))), (q 14, .inl (E.2 0, 7, .inl (fun _ => 0))), (q 15, .inl (E.2 0, 7, .inl fm)), (q 12, .inl (E.2 0, 504, .inl (fun _ => 0)))]) (va_Qi (fun (r : Int32) (_ : Unit) => r = cond (inR b 0 5) 0 (-2)) (fun (_ : Unit) (t : State) => wB E (va_A [(h0, .inr (12, mO q)), (q 13, .inl (E.2 0, 7, .inl (fun _ => 0))), (q 14, .inl (E.2 0, 7, .inl (fun _ => 0))), (q 15, .inl (E.2 0, 7, .inl fm)), (q 12, .inl (E.2 0, 504, .inl (fun _ => 0)))] sz) [] t) (va_A [(h0, .inr (12, mO q)), (q 13, .inl (E.2 0, 7, .inl (fun _ => 0))), (q 14, .inl (E.2 0, 7, .inl (fun _ => 0))), (q 15, .inl (E.2 0, 7, .inl fm)), (q 12, .inl (E.2 0, 504, .inl (fun _ => 0)))] sz)) 0 0 (va_A [(h0, .inr (12, mO q)), (q 13, .inl (E.2 0, 7, .inl (fun _ => 0))), (q 14, .inl (E.2 0, 7, .inl (fun _ => 0))), (q 15, .inl (E.2 0, 7, .inl fm)), (q 12, .inl (E.2 0, 504, .inl (fun _ => 0)))] sz) := by
  refine Met.ofW (cc := cX12_insurer) (maxL := 7) (ret := (some .int)) (by decide) rfl ?_
  intro p e s m args below meth c s₁ B hml hv
  obtain ⟨rfl, hsz, hP, hkn, hD0, hst⟩ := hv
  have hx := B.exec
  have hb := B.bytes
  have hr := B.returns
  have hts := atoms_spec (ws := wsX12_insurer) B.pre
  have hown : s.vm.findClass RX12 = some m.cls := findClass_of_methodNamed B.named
  have hlocks := B.notSynchronized
  subst hsz
  have hD := hD0.self (sz := s.heap.size)
  have hK := hkn.1
  have hAO := hkn.2.2
  generalize hAe : va_A [(h0, .inr (12, mO q)), (q 13, .inl (E.2 0, 7, .inl (fun _ => 0))), (q 14, .inl (E.2 0, 7, .inl (fun _ => 0))), (q 15, .inl (E.2 0, 7, .inl fm)), (q 12, .inl (E.2 0, 504, .inl (fun _ => 0)))] s.heap.size = A at hD hst ⊢
  have hA : ∀ q : Nat, s.heap.size ≤ q → A q := fun q h => by rw [← hAe]; exact Or.inr h
  have hS : va_S A s.heap s.heap [] := va_S.rf
  have hP : va_P E.1 vwCl [(h0, .inr (12, mO q)), (q 13, .inl (E.2 0, 7, .inl (fun _ => 0))), (q 14, .inl (E.2 0, 7, .inl (fun _ => 0))), (q 15, .inl (E.2 0, 7, .inl fm)), (q 12, .inl (E.2 0, 504, .inl (fun _ => 0)))] s.heap := hP
  have hl := lv_entry ([.ref h0, .int b]) (n := 7) (Nat.le_of_ble_eq_true rfl)
  rw [lg_entry_eq]
  generalize (lg_sl ([.ref h0, .int b]) ++ List.replicate (7 - (lg_sl ([.ref h0, .int b])).length) Slot.unset).toArray = ls at hl ⊢
  have hl : lv_has ls 7 [(0, .ref h0), (1, .int b)] := hl
  have fl13 := hts (.fieldLink RX12 13 "BoatsHomeModel" "faultPlace" "I") (by decide +kernel)
  have fl24 := hts (.fieldLink RX12 24 "BoatsHomeModel" "boxes" "[I") (by decide +kernel)
  have fl27 := hts (.fieldLink RX12 27 "BoatsHomeModel" "boxMany" "[I") (by decide +kernel)
  have fl30 := hts (.fieldLink RX12 30 "BoatsHomeModel" "minCrew" "[I") (by decide +kernel)
  have fl33 := hts (.fieldLink RX12 33 "BoatsHomeModel" "maxForce" "[I") (by decide +kernel)
  have fl180 := hts (.fieldLink RX12 180 "BoatsHomeModel" "sort" "I") (by decide +kernel)
  have fl191 := hts (.fieldLink RX12 191 "BoatsHomeModel" "what" "I") (by decide +kernel)
  have fl200 := hts (.fieldLink RX12 200 "BoatsHomeModel" "faultKind" "I") (by decide +kernel)
  have inX12 : ∀ w ∈ u_ws RX12 TX12 59, w ∈ wsX12_insurer := by decide +kernel
  refine lv_aload_n hx hb dX12_insurer_0 rfl (lv_at hl 0 rfl) ?_
  have hPc := hP.sub (ws' := [(h0, .inr (12, mO q))]) [0] rfl
  have hDc := hD.sub (ws' := [(h0, .inr (12, mO q))]) [0] (by decide) rfl
  have hFc := va_free (wc := [(h0, .inr (12, mO q))]) hD hS hA [0] rfl
  refine va_callv (va_runV (As := []) (rest := []) ⟨hx, hb, hml, hown, hts⟩ (c_X12_taking l E h0 q s.heap.size ) (cwV 0 hts gX12_insurer_X12_taking rfl rfl rfl (by decide +kernel) ⟨Nat.le_of_ble_eq_true rfl, Nat.le_of_ble_eq_true rfl⟩) ⟨pcW_blind, va_recv hK hPc (ci := 12) (q0 := 0) rfl rfl, (pcW_pre hPc hkn hDc hst hS hFc)⟩ rfl rfl hl.1 rfl (lv_room (Nat.le_of_ble_eq_true rfl)) dX12_insurer_1 ⟨Nat.le_of_ble_eq_true rfl, Nat.le_of_ble_eq_true rfl⟩) hS (fun q _ h => hFc q h) hFc (fun u t H1 locs ht hvm hw2 hB hz1 hk1 hS => ?_)
  obtain ⟨hP1, hD1⟩ := hB
  rw [ht] at hP1
  try dsimp only at hw2
  obtain ⟨hP, hD⟩ := va_join (wr := [(q 13, .inl (E.2 0, 7, .inl (fun _ => 0))), (q 14, .inl (E.2 0, 7, .inl (fun _ => 0))), (q 15, .inl (E.2 0, 7, .inl fm)), (q 12, .inl (E.2 0, 504, .inl (fun _ => 0)))]) (w1 := [(h0, .inr (12, mO q))]) hP hD [0] [1, 2, 3, 4] rfl rfl (by decide) (by decide) hk1 hFc hP1 hD1
  generalize H1 = H at hP hS ⊢
  have hP : va_P E.1 vwCl [(q 13, .inl (E.2 0, 7, .inl (fun _ => 0))), (q 14, .inl (E.2 0, 7, .inl (fun _ => 0))), (q 15, .inl (E.2 0, 7, .inl fm)), (q 12, .inl (E.2 0, 504, .inl (fun _ => 0))), (h0, .inr (12, mO q))] H := hP
  have hD : va_D A [(q 13, .inl (E.2 0, 7, .inl (fun _ => 0))), (q 14, .inl (E.2 0, 7, .inl (fun _ => 0))), (q 15, .inl (E.2 0, 7, .inl fm)), (q 12, .inl (E.2 0, 504, .inl (fun _ => 0))), (h0, .inr (12, mO q))] := hD
  refine lv_iload_n hx hb dX12_insurer_4 rfl (lv_at hl 1 rfl) ?_
  have hPc := hP.sub (ws' := []) [] rfl
  have hDc := hD.sub (ws' := []) [] (by decide) rfl
  have hFc := va_free (wc := []) hD hS hA [] rfl
  refine va_calli (va_runS (As := [.int b]) (rest := []) ⟨hx, hb, hml, hown, hts⟩ (c_X12_isBoat l E b H.size ) (va_cwS 1 hts gX12_insurer_X12_isBoat rfl rfl rfl (by decide +kernel) ⟨Nat.le_of_ble_eq_true rfl, Nat.le_of_ble_eq_true rfl⟩) ⟨pcW_blind, (pcW_pre hPc hkn hDc hst hS hFc)⟩ rfl rfl hl.1 rfl (lv_room (Nat.le_of_ble_eq_true rfl)) dX12_insurer_5 ⟨Nat.le_of_ble_eq_true rfl, Nat.le_of_ble_eq_true rfl⟩) hS (fun q _ h => hFc q h) hFc (fun r3 u t H1 locs ht hvm hw4 hB hz1 hk1 hS => ?_)
  obtain ⟨hP1, hD1⟩ := hB
  rw [ht] at hP1
  try dsimp only at hw4
  obtain ⟨hP, hD⟩ := va_join (wr := [(q 13, .inl (E.2 0, 7, .inl (fun _ => 0))), (q 14, .inl (E.2 0, 7, .inl (fun _ => 0))), (q 15, .inl (E.2 0, 7, .inl fm)), (q 12, .inl (E.2 0, 504, .inl (fun _ => 0))), (h0, .inr (12, mO q))]) (w1 := []) hP hD [] [0, 1, 2, 3, 4] rfl rfl (by decide) (by decide) hk1 hFc hP1 hD1
  generalize H1 = H at hP hS ⊢
  have hP : va_P E.1 vwCl [(q 13, .inl (E.2 0, 7, .inl (fun _ => 0))), (q 14, .inl (E.2 0, 7, .inl (fun _ => 0))), (q 15, .inl (E.2 0, 7, .inl fm)), (q 12, .inl (E.2 0, 504, .inl (fun _ => 0))), (h0, .inr (12, mO q))] H := hP
  have hD : va_D A [(q 13, .inl (E.2 0, 7, .inl (fun _ => 0))), (q 14, .inl (E.2 0, 7, .inl (fun _ => 0))), (q 15, .inl (E.2 0, 7, .inl fm)), (q 12, .inl (E.2 0, 504, .inl (fun _ => 0))), (h0, .inr (12, mO q))] := hD
  refine lv_if_ne (tgt := 14) hx hb dX12_insurer_8 (by decide) (fun c5 => ?_) (fun c5 => ?_)
  · have b6 : inR b 0 5 = true := bn hw4 c5
    refine lv_aload_n hx hb dX12_insurer_14 rfl (lv_at hl 0 rfl) ?_
    refine lv_iconst (v := 0) hx hb dX12_insurer_15 (by decide) ?_
    refine va_put (D := E.1) (ci := 12) (v := .int 0) (ty := .int) (C := RX12) (T := TX12) (N := 59) hx hb hts inX12 tyX12 tyX12_ok nmX12 hown hK hP hD hS 4 rfl rfl 8 (by decide) fl200 (fun _ h9 => h9) rfl (by decide +kernel) rfl rfl (Nat.le_of_ble_eq_true rfl) dX12_insurer_16 (fun H locs hP hD hS => ?_)
    have hP : va_P E.1 vwCl [(q 13, .inl (E.2 0, 7, .inl (fun _ => 0))), (q 14, .inl (E.2 0, 7, .inl (fun _ => 0))), (q 15, .inl (E.2 0, 7, .inl fm)), (q 12, .inl (E.2 0, 504, .inl (fun _ => 0))), (h0, .inr (12, mO q))] H := hP
    have hD : va_D A [(q 13, .inl (E.2 0, 7, .inl (fun _ => 0))), (q 14, .inl (E.2 0, 7, .inl (fun _ => 0))), (q 15, .inl (E.2 0, 7, .inl fm)), (q 12, .inl (E.2 0, 504, .inl (fun _ => 0))), (h0, .inr (12, mO q))] := hD
    refine lv_aload_n hx hb dX12_insurer_19 rfl (lv_at hl 0 rfl) ?_
    refine lv_iconst (v := (-1)) hx hb dX12_insurer_20 (by decide) ?_
    refine va_put (D := E.1) (ci := 12) (v := .int (-1)) (ty := .int) (C := RX12) (T := TX12) (N := 59) hx hb hts inX12 tyX12 tyX12_ok nmX12 hown hK hP hD hS 4 rfl rfl 9 (by decide) fl13 (fun _ h9 => h9) rfl (by decide +kernel) rfl rfl (Nat.le_of_ble_eq_true rfl) dX12_insurer_21 (fun H locs hP hD hS => ?_)
    have hP : va_P E.1 vwCl [(q 13, .inl (E.2 0, 7, .inl (fun _ => 0))), (q 14, .inl (E.2 0, 7, .inl (fun _ => 0))), (q 15, .inl (E.2 0, 7, .inl fm)), (q 12, .inl (E.2 0, 504, .inl (fun _ => 0))), (h0, .inr (12, mO q))] H := hP
    have hD : va_D A [(q 13, .inl (E.2 0, 7, .inl (fun _ => 0))), (q 14, .inl (E.2 0, 7, .inl (fun _ => 0))), (q 15, .inl (E.2 0, 7, .inl fm)), (q 12, .inl (E.2 0, 504, .inl (fun _ => 0))), (h0, .inr (12, mO q))] := hD
    refine lv_aload_n hx hb dX12_insurer_24 rfl (lv_at hl 0 rfl) ?_
    refine va_get (D := E.1) (ci := 12) (v := .ref (q 13)) (C := RX12) (T := TX12) (N := 59) hx hb hts inX12 hown hK hP 4 rfl rfl 13 (by decide) fl27 (fun _ h9 => h9) rfl dX12_insurer_25 ?_
    refine lv_bipush (v := 6) hx hb dX12_insurer_28 (by decide) ?_
    refine lv_iconst (v := 0) hx hb dX12_insurer_30 (by decide) ?_
    refine va_iast hx hb hK hP hD hS 0 0 rfl rfl (show vp_in 6 7 from by unfold vp_in; decide) dX12_insurer_31 (fun H locs hP hD hS => ?_)
    have hP : va_P E.1 vwCl [(q 13, .inl (E.2 0, 7, .inl (upd (fun _ => 0) (Int32.toNatClampNeg 6) 0))), (q 14, .inl (E.2 0, 7, .inl (fun _ => 0))), (q 15, .inl (E.2 0, 7, .inl fm)), (q 12, .inl (E.2 0, 504, .inl (fun _ => 0))), (h0, .inr (12, mO q))] H := hP
    have hD : va_D A [(q 13, .inl (E.2 0, 7, .inl (upd (fun _ => 0) (Int32.toNatClampNeg 6) 0))), (q 14, .inl (E.2 0, 7, .inl (fun _ => 0))), (q 15, .inl (E.2 0, 7, .inl fm)), (q 12, .inl (E.2 0, 504, .inl (fun _ => 0))), (h0, .inr (12, mO q))] := hD
    rw [upd_same] at hP hD
    have hP : va_P E.1 vwCl [(q 13, .inl (E.2 0, 7, .inl (fun _ => 0))), (q 14, .inl (E.2 0, 7, .inl (fun _ => 0))), (q 15, .inl (E.2 0, 7, .inl fm)), (q 12, .inl (E.2 0, 504, .inl (fun _ => 0))), (h0, .inr (12, mO q))] H := hP
    have hD : va_D A [(q 13, .inl (E.2 0, 7, .inl (fun _ => 0))), (q 14, .inl (E.2 0, 7, .inl (fun _ => 0))), (q 15, .inl (E.2 0, 7, .inl fm)), (q 12, .inl (E.2 0, 504, .inl (fun _ => 0))), (h0, .inr (12, mO q))] := hD
    refine lv_aload_n hx hb dX12_insurer_32 rfl (lv_at hl 0 rfl) ?_
    refine va_get (D := E.1) (ci := 12) (v := .ref (q 14)) (C := RX12) (T := TX12) (N := 59) hx hb hts inX12 hown hK hP 4 rfl rfl 14 (by decide) fl30 (fun _ h9 => h9) rfl dX12_insurer_33 ?_
    refine lv_bipush (v := 6) hx hb dX12_insurer_36 (by decide) ?_
    refine lv_iconst (v := 0) hx hb dX12_insurer_38 (by decide) ?_
    refine va_iast hx hb hK hP hD hS 1 0 rfl rfl (show vp_in 6 7 from by unfold vp_in; decide) dX12_insurer_39 (fun H locs hP hD hS => ?_)
    have hP : va_P E.1 vwCl [(q 13, .inl (E.2 0, 7, .inl (fun _ => 0))), (q 14, .inl (E.2 0, 7, .inl (upd (fun _ => 0) (Int32.toNatClampNeg 6) 0))), (q 15, .inl (E.2 0, 7, .inl fm)), (q 12, .inl (E.2 0, 504, .inl (fun _ => 0))), (h0, .inr (12, mO q))] H := hP
    have hD : va_D A [(q 13, .inl (E.2 0, 7, .inl (fun _ => 0))), (q 14, .inl (E.2 0, 7, .inl (upd (fun _ => 0) (Int32.toNatClampNeg 6) 0))), (q 15, .inl (E.2 0, 7, .inl fm)), (q 12, .inl (E.2 0, 504, .inl (fun _ => 0))), (h0, .inr (12, mO q))] := hD
    rw [upd_same] at hP hD
    have hP : va_P E.1 vwCl [(q 13, .inl (E.2 0, 7, .inl (fun _ => 0))), (q 14, .inl (E.2 0, 7, .inl (fun _ => 0))), (q 15, .inl (E.2 0, 7, .inl fm)), (q 12, .inl (E.2 0, 504, .inl (fun _ => 0))), (h0, .inr (12, mO q))] H := hP
    have hD : va_D A [(q 13, .inl (E.2 0, 7, .inl (fun _ => 0))), (q 14, .inl (E.2 0, 7, .inl (fun _ => 0))), (q 15, .inl (E.2 0, 7, .inl fm)), (q 12, .inl (E.2 0, 504, .inl (fun _ => 0))), (h0, .inr (12, mO q))] := hD
    refine lv_aload_n hx hb dX12_insurer_40 rfl (lv_at hl 0 rfl) ?_
    refine va_get (D := E.1) (ci := 12) (v := .ref (q 15)) (C := RX12) (T := TX12) (N := 59) hx hb hts inX12 hown hK hP 4 rfl rfl 15 (by decide) fl33 (fun _ h9 => h9) rfl dX12_insurer_41 ?_
    refine lv_bipush (v := 6) hx hb dX12_insurer_44 (by decide) ?_
    refine lv_bipush (v := 9) hx hb dX12_insurer_46 (by decide) ?_
    refine va_iast hx hb hK hP hD hS 2 0 rfl rfl (show vp_in 6 7 from by unfold vp_in; decide) dX12_insurer_48 (fun H locs hP hD hS => ?_)
    have hP : va_P E.1 vwCl [(q 13, .inl (E.2 0, 7, .inl (fun _ => 0))), (q 14, .inl (E.2 0, 7, .inl (fun _ => 0))), (q 15, .inl (E.2 0, 7, .inl (upd fm (Int32.toNatClampNeg 6) 9))), (q 12, .inl (E.2 0, 504, .inl (fun _ => 0))), (h0, .inr (12, mO q))] H := hP
    have hD : va_D A [(q 13, .inl (E.2 0, 7, .inl (fun _ => 0))), (q 14, .inl (E.2 0, 7, .inl (fun _ => 0))), (q 15, .inl (E.2 0, 7, .inl (upd fm (Int32.toNatClampNeg 6) 9))), (q 12, .inl (E.2 0, 504, .inl (fun _ => 0))), (h0, .inr (12, mO q))] := hD
    obtain ⟨f9, ef9⟩ : ∃ g : Nat → Int32, g = upd fm (Int32.toNatClampNeg 6) 9 := ⟨_, rfl⟩
    rw [← ef9] at hP hD
    refine lv_iconst (v := 0) hx hb dX12_insurer_49 (by decide) ?_
    refine lv_istore_n (lv' := [(2, .int 0), (0, .ref h0), (1, .int b)]) hx hb dX12_insurer_50 rfl hl (by decide) rfl (fun ls hl => ?_)
    refine lv_iconst (v := 0) hx hb dX12_insurer_51 (by decide) ?_
    refine lv_istore_n (lv' := [(3, .int 0), (2, .int 0), (0, .ref h0), (1, .int b)]) hx hb dX12_insurer_52 rfl hl (by decide) rfl (fun ls hl => ?_)
    refine lv_iconst (v := 0) hx hb dX12_insurer_53 (by decide) ?_
    refine lv_istore (lv' := [(4, .int 0), (3, .int 0), (2, .int 0), (0, .ref h0), (1, .int b)]) hx hb dX12_insurer_54 hl (by decide) rfl (fun ls hl => ?_)
    refine lv_aload_n hx hb dX12_insurer_56 rfl (lv_at hl 3 rfl) ?_
    have hPc := hP.sub (ws' := [(h0, .inr (12, mO q))]) [4] rfl
    have hDc := hD.sub (ws' := [(h0, .inr (12, mO q))]) [4] (by decide) rfl
    have hFc := va_free (wc := [(h0, .inr (12, mO q))]) hD hS hA [4] rfl
    refine va_callv (va_runV (As := []) (rest := []) ⟨hx, hb, hml, hown, hts⟩ (c_X12_scan l E h0 q H.size ) (cwV 0 hts gX12_insurer_X12_scan rfl rfl rfl (by decide +kernel) ⟨Nat.le_of_ble_eq_true rfl, Nat.le_of_ble_eq_true rfl⟩) ⟨pcW_blind, va_recv hK hPc (ci := 12) (q0 := 0) rfl rfl, (pcW_pre hPc hkn hDc hst hS hFc)⟩ rfl rfl hl.1 rfl (lv_room (Nat.le_of_ble_eq_true rfl)) dX12_insurer_57 ⟨Nat.le_of_ble_eq_true rfl, Nat.le_of_ble_eq_true rfl⟩) hS (fun q _ h => hFc q h) hFc (fun u t H1 locs ht hvm hw11 hB hz1 hk1 hS => ?_)
    obtain ⟨hP1, hD1⟩ := hB
    rw [ht] at hP1
    try dsimp only at hw11
    obtain ⟨hP, hD⟩ := va_join (wr := [(q 13, .inl (E.2 0, 7, .inl (fun _ => 0))), (q 14, .inl (E.2 0, 7, .inl (fun _ => 0))), (q 15, .inl (E.2 0, 7, .inl f9)), (q 12, .inl (E.2 0, 504, .inl (fun _ => 0)))]) (w1 := [(h0, .inr (12, (mO q).set 3 (.int 4)))]) hP hD [4] [0, 1, 2, 3] rfl rfl (by decide) (by decide) hk1 hFc hP1 hD1
    generalize H1 = H at hP hS ⊢
    have hP : va_P E.1 vwCl [(q 13, .inl (E.2 0, 7, .inl (fun _ => 0))), (q 14, .inl (E.2 0, 7, .inl (fun _ => 0))), (q 15, .inl (E.2 0, 7, .inl f9)), (q 12, .inl (E.2 0, 504, .inl (fun _ => 0))), (h0, .inr (12, (mO q).set 3 (.int 4)))] H := hP
    have hD : va_D A [(q 13, .inl (E.2 0, 7, .inl (fun _ => 0))), (q 14, .inl (E.2 0, 7, .inl (fun _ => 0))), (q 15, .inl (E.2 0, 7, .inl f9)), (q 12, .inl (E.2 0, 504, .inl (fun _ => 0))), (h0, .inr (12, (mO q).set 3 (.int 4)))] := hD
    refine lv_aload_n hx hb dX12_insurer_60 rfl (lv_at hl 3 rfl) ?_
    refine va_get (D := E.1) (ci := 12) (v := .int 4) (C := RX12) (T := TX12) (N := 59) hx hb hts inX12 hown hK hP 4 rfl rfl 3 (by decide) fl180 (fun _ h9 => h9) rfl dX12_insurer_61 ?_
    refine lv_iconst (v := 4) hx hb dX12_insurer_64 (by decide) ?_
    refine lv_icmp_eq (tgt := 162) hx hb dX12_insurer_65 (by decide) (fun _ => ?_) (fun c9 => absurd c9 (by decide))
    refine lv_aload_n hx hb dX12_insurer_162 rfl (lv_at hl 3 rfl) ?_
    refine va_get (D := E.1) (ci := 12) (v := .ref (q 13)) (C := RX12) (T := TX12) (N := 59) hx hb hts inX12 hown hK hP 4 rfl rfl 13 (by decide) fl27 (fun _ h9 => h9) rfl dX12_insurer_163 ?_
    refine lv_iload_n hx hb dX12_insurer_166 rfl (lv_at hl 4 rfl) ?_
    refine lv_aload_n hx hb dX12_insurer_167 rfl (lv_at hl 3 rfl) ?_
    refine va_get (D := E.1) (ci := 12) (v := .ref (q 13)) (C := RX12) (T := TX12) (N := 59) hx hb hts inX12 hown hK hP 4 rfl rfl 13 (by decide) fl27 (fun _ h9 => h9) rfl dX12_insurer_168 ?_
    refine lv_bipush (v := 6) hx hb dX12_insurer_171 (by decide) ?_
    refine va_iald hx hb hK hP 0 0 rfl rfl (show vp_in 6 7 from by unfold vp_in; decide) dX12_insurer_173 ?_
    have hi12 : vp_in b 7 := by have := inR_in (n := 6) (by decide) b6; rw [vp_in_iff] at this ⊢; omega
    refine va_iast hx hb hK hP hD hS 0 0 rfl rfl hi12 dX12_insurer_174 (fun H locs hP hD hS => ?_)
    have hP : va_P E.1 vwCl [(q 13, .inl (E.2 0, 7, .inl (upd (fun _ => 0) b.toNatClampNeg 0))), (q 14, .inl (E.2 0, 7, .inl (fun _ => 0))), (q 15, .inl (E.2 0, 7, .inl f9)), (q 12, .inl (E.2 0, 504, .inl (fun _ => 0))), (h0, .inr (12, (mO q).set 3 (.int 4)))] H := hP
    have hD : va_D A [(q 13, .inl (E.2 0, 7, .inl (upd (fun _ => 0) b.toNatClampNeg 0))), (q 14, .inl (E.2 0, 7, .inl (fun _ => 0))), (q 15, .inl (E.2 0, 7, .inl f9)), (q 12, .inl (E.2 0, 504, .inl (fun _ => 0))), (h0, .inr (12, (mO q).set 3 (.int 4)))] := hD
    rw [upd_same] at hP hD
    have hP : va_P E.1 vwCl [(q 13, .inl (E.2 0, 7, .inl (fun _ => 0))), (q 14, .inl (E.2 0, 7, .inl (fun _ => 0))), (q 15, .inl (E.2 0, 7, .inl f9)), (q 12, .inl (E.2 0, 504, .inl (fun _ => 0))), (h0, .inr (12, (mO q).set 3 (.int 4)))] H := hP
    have hD : va_D A [(q 13, .inl (E.2 0, 7, .inl (fun _ => 0))), (q 14, .inl (E.2 0, 7, .inl (fun _ => 0))), (q 15, .inl (E.2 0, 7, .inl f9)), (q 12, .inl (E.2 0, 504, .inl (fun _ => 0))), (h0, .inr (12, (mO q).set 3 (.int 4)))] := hD
    refine lv_aload_n hx hb dX12_insurer_175 rfl (lv_at hl 3 rfl) ?_
    refine va_get (D := E.1) (ci := 12) (v := .ref (q 14)) (C := RX12) (T := TX12) (N := 59) hx hb hts inX12 hown hK hP 4 rfl rfl 14 (by decide) fl30 (fun _ h9 => h9) rfl dX12_insurer_176 ?_
    refine lv_iload_n hx hb dX12_insurer_179 rfl (lv_at hl 4 rfl) ?_
    refine lv_aload_n hx hb dX12_insurer_180 rfl (lv_at hl 3 rfl) ?_
    refine va_get (D := E.1) (ci := 12) (v := .ref (q 14)) (C := RX12) (T := TX12) (N := 59) hx hb hts inX12 hown hK hP 4 rfl rfl 14 (by decide) fl30 (fun _ h9 => h9) rfl dX12_insurer_181 ?_
    refine lv_bipush (v := 6) hx hb dX12_insurer_184 (by decide) ?_
    refine va_iald hx hb hK hP 1 0 rfl rfl (show vp_in 6 7 from by unfold vp_in; decide) dX12_insurer_186 ?_
    refine va_iast hx hb hK hP hD hS 1 0 rfl rfl hi12 dX12_insurer_187 (fun H locs hP hD hS => ?_)
    have hP : va_P E.1 vwCl [(q 13, .inl (E.2 0, 7, .inl (fun _ => 0))), (q 14, .inl (E.2 0, 7, .inl (upd (fun _ => 0) b.toNatClampNeg 0))), (q 15, .inl (E.2 0, 7, .inl f9)), (q 12, .inl (E.2 0, 504, .inl (fun _ => 0))), (h0, .inr (12, (mO q).set 3 (.int 4)))] H := hP
    have hD : va_D A [(q 13, .inl (E.2 0, 7, .inl (fun _ => 0))), (q 14, .inl (E.2 0, 7, .inl (upd (fun _ => 0) b.toNatClampNeg 0))), (q 15, .inl (E.2 0, 7, .inl f9)), (q 12, .inl (E.2 0, 504, .inl (fun _ => 0))), (h0, .inr (12, (mO q).set 3 (.int 4)))] := hD
    rw [upd_same] at hP hD
    have hP : va_P E.1 vwCl [(q 13, .inl (E.2 0, 7, .inl (fun _ => 0))), (q 14, .inl (E.2 0, 7, .inl (fun _ => 0))), (q 15, .inl (E.2 0, 7, .inl f9)), (q 12, .inl (E.2 0, 504, .inl (fun _ => 0))), (h0, .inr (12, (mO q).set 3 (.int 4)))] H := hP
    have hD : va_D A [(q 13, .inl (E.2 0, 7, .inl (fun _ => 0))), (q 14, .inl (E.2 0, 7, .inl (fun _ => 0))), (q 15, .inl (E.2 0, 7, .inl f9)), (q 12, .inl (E.2 0, 504, .inl (fun _ => 0))), (h0, .inr (12, (mO q).set 3 (.int 4)))] := hD
    refine lv_aload_n hx hb dX12_insurer_188 rfl (lv_at hl 3 rfl) ?_
    refine va_get (D := E.1) (ci := 12) (v := .ref (q 15)) (C := RX12) (T := TX12) (N := 59) hx hb hts inX12 hown hK hP 4 rfl rfl 15 (by decide) fl33 (fun _ h9 => h9) rfl dX12_insurer_189 ?_
    refine lv_iload_n hx hb dX12_insurer_192 rfl (lv_at hl 4 rfl) ?_
    refine lv_aload_n hx hb dX12_insurer_193 rfl (lv_at hl 3 rfl) ?_
    refine va_get (D := E.1) (ci := 12) (v := .ref (q 15)) (C := RX12) (T := TX12) (N := 59) hx hb hts inX12 hown hK hP 4 rfl rfl 15 (by decide) fl33 (fun _ h9 => h9) rfl dX12_insurer_194 ?_
    refine lv_bipush (v := 6) hx hb dX12_insurer_197 (by decide) ?_
    refine va_iald hx hb hK hP 2 0 rfl rfl (show vp_in 6 7 from by unfold vp_in; decide) dX12_insurer_199 ?_
    refine lv_topi (fun x15 ex15 => ?_)
    obtain rfl : x15 = 9 := ex15.trans (by rw [ef9]; exact pk_us)
    refine va_iast hx hb hK hP hD hS 2 0 rfl rfl hi12 dX12_insurer_200 (fun H locs hP hD hS => ?_)
    have hP : va_P E.1 vwCl [(q 13, .inl (E.2 0, 7, .inl (fun _ => 0))), (q 14, .inl (E.2 0, 7, .inl (fun _ => 0))), (q 15, .inl (E.2 0, 7, .inl (upd f9 b.toNatClampNeg 9))), (q 12, .inl (E.2 0, 504, .inl (fun _ => 0))), (h0, .inr (12, (mO q).set 3 (.int 4)))] H := hP
    have hD : va_D A [(q 13, .inl (E.2 0, 7, .inl (fun _ => 0))), (q 14, .inl (E.2 0, 7, .inl (fun _ => 0))), (q 15, .inl (E.2 0, 7, .inl (upd f9 b.toNatClampNeg 9))), (q 12, .inl (E.2 0, 504, .inl (fun _ => 0))), (h0, .inr (12, (mO q).set 3 (.int 4)))] := hD
    obtain ⟨f16, ef16⟩ : ∃ g : Nat → Int32, g = upd f9 b.toNatClampNeg 9 := ⟨_, rfl⟩
    rw [← ef16] at hP hD
    refine lv_iconst (v := 0) hx hb dX12_insurer_201 (by decide) ?_
    refine lv_istore (lv' := [(5, .int 0), (4, .int 0), (3, .int 0), (2, .int 0), (0, .ref h0), (1, .int b)]) hx hb dX12_insurer_202 hl (by decide) rfl (fun ls hl => ?_)
    have hPl := hP.sub (ws' := [(h0, .inr (12, (mO q).set 3 (.int 4))), (q 12, .inl (E.2 0, 504, .inl (fun _ => 0))), (q 13, .inl (E.2 0, 7, .inl (fun _ => 0))), (q 14, .inl (E.2 0, 7, .inl (fun _ => 0))), (q 15, .inl (E.2 0, 7, .inl f16))]) [4, 3, 0, 1, 2] rfl
    have hDl := hD.sub (ws' := [(h0, .inr (12, (mO q).set 3 (.int 4))), (q 12, .inl (E.2 0, 504, .inl (fun _ => 0))), (q 13, .inl (E.2 0, 7, .inl (fun _ => 0))), (q 14, .inl (E.2 0, 7, .inl (fun _ => 0))), (q 15, .inl (E.2 0, 7, .inl f16))]) [4, 3, 0, 1, 2] (by decide) rfl
    refine lp_m_ins E h0 (q 12) ((mO q).set 3 (.int 4)) ([(q 13, .inl (E.2 0, 7, .inl (fun _ => 0))), (q 14, .inl (E.2 0, 7, .inl (fun _ => 0))), (q 15, .inl (E.2 0, 7, .inl f16))]) b hx hb hml hown hts hkn hst hA rfl b6 (fun  H locs ls  hP hD hS hl => ?_) 100 0 _ _ _ (by omega) (by omega) hPl hDl hS (lv_sub hl [4, 5, 1, 0] rfl)
    have hP : va_P E.1 vwCl [(h0, .inr (12, (mO q).set 3 (.int 4))), (q 12, .inl (E.2 0, 504, .inl (fun _ => 0))), (q 13, .inl (E.2 0, 7, .inl (fun _ => 0))), (q 14, .inl (E.2 0, 7, .inl (fun _ => 0))), (q 15, .inl (E.2 0, 7, .inl f16))] H := hP
    have hD : va_D A [(h0, .inr (12, (mO q).set 3 (.int 4))), (q 12, .inl (E.2 0, 504, .inl (fun _ => 0))), (q 13, .inl (E.2 0, 7, .inl (fun _ => 0))), (q 14, .inl (E.2 0, 7, .inl (fun _ => 0))), (q 15, .inl (E.2 0, 7, .inl f16))] := hD
    refine lv_iload hx hb dX12_insurer_240 (lv_at hl 2 rfl) ?_
    have hP9 := hP.sub (ws' := []) [] rfl
    have hD9 := hD.sub (ws' := []) [] (by decide) rfl
    exact W.iret (v := 0) hx hb hr (fun t ht hW => ⟨⟨0, (), rfl, (by first | (rw [b6]; done) | (rw [b6]; rfl)), by rw [ht]; exact hP9, hD9⟩, hS.F ht⟩) hS.2.2 dX12_insurer_242
  · have b17 : inR b 0 5 = false := bz hw4 c5
    refine lv_bipush (v := (-2)) hx hb dX12_insurer_11 (by decide) ?_
    have hP9 := hP.sub (ws' := []) [] rfl
    have hD9 := hD.sub (ws' := []) [] (by decide) rfl
    exact W.iret (v := (-2)) hx hb hr (fun t ht hW => ⟨⟨(-2), (), rfl, (by first | (rw [b17]; done) | (rw [b17]; rfl)), by rw [ht]; exact hP9, hD9⟩, hS.F ht⟩) hS.2.2 dX12_insurer_13
