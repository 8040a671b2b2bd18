set_option maxHeartbeats 4000000 in
set_option maxRecDepth 100000 in
theorem c_X12_isBoat (l : Launch) (E : vE) (x : Int32) (sz : Nat) : Met l yX12_isBoat wsX12_isBoat ({ frames := 1, cells := 0, slots := 0, locals := 22 }) (pcW E [.int x] sz []) (va_Qi (fun (r : Int32) (_ : Unit) => r = bI (inR x 0 5)) (fun (_ : Unit) (t : State) => wB E (va_A [] sz) [] t) (va_A [] sz)) 0 0 (va_A [] sz) := by
  refine Met.ofW (cc := cX12_isBoat) (maxL := 1) (ret := (some .boolean)) (by decide) rfl ?_
  intro p e s m args below meth c s₁ B hml hv
  obtain ⟨rfl, hsz, hP, hkn, hD0, hst⟩ := hv
  have hx := B.exec
  have hb := B.bytes
  have hr := B.returns
  have hts := atoms_spec (ws := wsX12_isBoat) B.pre
  have hown : s.vm.findClass RX12 = some m.cls := findClass_of_methodNamed B.named
  have hlocks := B.notSynchronized
  subst hsz
  have hD := hD0.self (sz := s.heap.size)
  have hK := hkn.1
  have hAO := hkn.2.2
  generalize hAe : va_A [] s.heap.size = A at hD hst ⊢
  have hA : ∀ q : Nat, s.heap.size ≤ q → A q := fun q h => by rw [← hAe]; exact Or.inr h
  have hS : va_S A s.heap s.heap [] := va_S.rf
  have hP : va_P E.1 vwCl [] s.heap := hP
  have hl := lv_entry ([.int x]) (n := 1) (Nat.le_of_ble_eq_true rfl)
  rw [lg_entry_eq]
  generalize (lg_sl ([.int x]) ++ List.replicate (1 - (lg_sl ([.int x])).length) Slot.unset).toArray = ls at hl ⊢
  have hl : lv_has ls 1 [(0, .int x)] := hl
  refine lv_iload_n hx hb dX12_isBoat_0 rfl (lv_at hl 0 rfl) ?_
  refine lv_iconst (v := 0) hx hb dX12_isBoat_1 (by decide) ?_
  refine lv_iconst (v := 5) hx hb dX12_isBoat_2 (by decide) ?_
  have hPc := hP.sub (ws' := []) [] rfl
  have hDc := hD.sub (ws' := []) [] (by decide) rfl
  have hFc := va_free (wc := []) hD hS hA [] rfl
  refine va_calli (va_runS (As := [.int x, .int 0, .int 5]) (rest := []) ⟨hx, hb, hml, hown, hts⟩ (c_X12_in l E x 0 5 s.heap.size ) (va_cwS 3 hts gX12_isBoat_X12_in rfl rfl rfl (by decide +kernel) ⟨Nat.le_of_ble_eq_true rfl, Nat.le_of_ble_eq_true rfl⟩) ⟨pcW_blind, (pcW_pre hPc hkn hDc hst hS hFc)⟩ rfl rfl hl.1 rfl (lv_room (Nat.le_of_ble_eq_true rfl)) dX12_isBoat_3 ⟨Nat.le_of_ble_eq_true rfl, Nat.le_of_ble_eq_true rfl⟩) hS (fun q _ h => hFc q h) hFc (fun r1 u t H1 locs ht hvm hw2 hB hz1 hk1 hS => ?_)
  obtain ⟨hP1, hD1⟩ := hB
  rw [ht] at hP1
  try dsimp only at hw2
  obtain ⟨hP, hD⟩ := va_join (wr := []) (w1 := []) hP hD [] [] rfl rfl (by decide) (by decide) hk1 hFc hP1 hD1
  generalize H1 = H at hP hS ⊢
  have hP : va_P E.1 vwCl [] H := hP
  have hD : va_D A [] := hD
  have hP9 := hP.sub (ws' := []) [] rfl
  have hD9 := hD.sub (ws' := []) [] (by decide) rfl
  exact W.zret (v := r1) hx hb hr (by rw [hw2]; exact bI_z _) (fun t ht hW => ⟨⟨r1, (), rfl, hw2, by rw [ht]; exact hP9, hD9⟩, hS.F ht⟩) hS.2.2 dX12_isBoat_6
set_option maxHeartbeats 4000000 in
set_option maxRecDepth 100000 in
theorem c_X12_isPort (l : Launch) (E : vE) (x : Int32) (sz : Nat) : Met l yX12_isPort wsX12_isPort ({ frames := 1, cells := 0, slots := 0, locals := 22 }) (pcW E [.int x] sz []) (va_Qi (fun (r : Int32) (_ : Unit) => r = bI (inR x 0 9)) (fun (_ : Unit) (t : State) => wB E (va_A [] sz) [] t) (va_A [] sz)) 0 0 (va_A [] sz) := by
  refine Met.ofW (cc := cX12_isPort) (maxL := 1) (ret := (some .boolean)) (by decide) rfl ?_
  intro p e s m args below meth c s₁ B hml hv
  obtain ⟨rfl, hsz, hP, hkn, hD0, hst⟩ := hv
  have hx := B.exec
  have hb := B.bytes
  have hr := B.returns
  have hts := atoms_spec (ws := wsX12_isPort) B.pre
  have hown : s.vm.findClass RX12 = some m.cls := findClass_of_methodNamed B.named
  have hlocks := B.notSynchronized
  subst hsz
  have hD := hD0.self (sz := s.heap.size)
  have hK := hkn.1
  have hAO := hkn.2.2
  generalize hAe : va_A [] s.heap.size = A at hD hst ⊢
  have hA : ∀ q : Nat, s.heap.size ≤ q → A q := fun q h => by rw [← hAe]; exact Or.inr h
  have hS : va_S A s.heap s.heap [] := va_S.rf
  have hP : va_P E.1 vwCl [] s.heap := hP
  have hl := lv_entry ([.int x]) (n := 1) (Nat.le_of_ble_eq_true rfl)
  rw [lg_entry_eq]
  generalize (lg_sl ([.int x]) ++ List.replicate (1 - (lg_sl ([.int x])).length) Slot.unset).toArray = ls at hl ⊢
  have hl : lv_has ls 1 [(0, .int x)] := hl
  refine lv_iload_n hx hb dX12_isPort_0 rfl (lv_at hl 0 rfl) ?_
  refine lv_iconst (v := 0) hx hb dX12_isPort_1 (by decide) ?_
  refine lv_bipush (v := 9) hx hb dX12_isPort_2 (by decide) ?_
  have hPc := hP.sub (ws' := []) [] rfl
  have hDc := hD.sub (ws' := []) [] (by decide) rfl
  have hFc := va_free (wc := []) hD hS hA [] rfl
  refine va_calli (va_runS (As := [.int x, .int 0, .int 9]) (rest := []) ⟨hx, hb, hml, hown, hts⟩ (c_X12_in l E x 0 9 s.heap.size ) (va_cwS 3 hts gX12_isPort_X12_in rfl rfl rfl (by decide +kernel) ⟨Nat.le_of_ble_eq_true rfl, Nat.le_of_ble_eq_true rfl⟩) ⟨pcW_blind, (pcW_pre hPc hkn hDc hst hS hFc)⟩ rfl rfl hl.1 rfl (lv_room (Nat.le_of_ble_eq_true rfl)) dX12_isPort_4 ⟨Nat.le_of_ble_eq_true rfl, Nat.le_of_ble_eq_true rfl⟩) hS (fun q _ h => hFc q h) hFc (fun r1 u t H1 locs ht hvm hw2 hB hz1 hk1 hS => ?_)
  obtain ⟨hP1, hD1⟩ := hB
  rw [ht] at hP1
  try dsimp only at hw2
  obtain ⟨hP, hD⟩ := va_join (wr := []) (w1 := []) hP hD [] [] rfl rfl (by decide) (by decide) hk1 hFc hP1 hD1
  generalize H1 = H at hP hS ⊢
  have hP : va_P E.1 vwCl [] H := hP
  have hD : va_D A [] := hD
  have hP9 := hP.sub (ws' := []) [] rfl
  have hD9 := hD.sub (ws' := []) [] (by decide) rfl
  exact W.zret (v := r1) hx hb hr (by rw [hw2]; exact bI_z _) (fun t ht hW => ⟨⟨r1, (), rfl, hw2, by rw [ht]; exact hP9, hD9⟩, hS.F ht⟩) hS.2.2 dX12_isPort_7
set_option maxHeartbeats 4000000 in
set_option maxRecDepth 100000 in
theorem c_X12_isPlace (l : Launch) (E : vE) (x : Int32) (sz : Nat) : Met l yX12_isPlace wsX12_isPlace ({ frames := 1, cells := 0, slots := 0, locals := 22 }) (pcW E [.int x] sz []) (va_Qi (fun (r : Int32) (_ : Unit) => r = bI (isPl x)) (fun (_ : Unit) (t : State) => wB E (va_A [] sz) [] t) (va_A [] sz)) 0 0 (va_A [] sz) := by
  refine Met.ofW (cc := cX12_isPlace) (maxL := 1) (ret := (some .boolean)) (by decide) rfl ?_
  intro p e s m args below meth c s₁ B hml hv
  obtain ⟨rfl, hsz, hP, hkn, hD0, hst⟩ := hv
  have hx := B.exec
  have hb := B.bytes
  have hr := B.returns
  have hts := atoms_spec (ws := wsX12_isPlace) B.pre
  have hown : s.vm.findClass RX12 = some m.cls := findClass_of_methodNamed B.named
  have hlocks := B.notSynchronized
  subst hsz
  have hD := hD0.self (sz := s.heap.size)
  have hK := hkn.1
  have hAO := hkn.2.2
  generalize hAe : va_A [] s.heap.size = A at hD hst ⊢
  have hA : ∀ q : Nat, s.heap.size ≤ q → A q := fun q h => by rw [← hAe]; exact Or.inr h
  have hS : va_S A s.heap s.heap [] := va_S.rf
  have hP : va_P E.1 vwCl [] s.heap := hP
  have hl := lv_entry ([.int x]) (n := 1) (Nat.le_of_ble_eq_true rfl)
  rw [lg_entry_eq]
  generalize (lg_sl ([.int x]) ++ List.replicate (1 - (lg_sl ([.int x])).length) Slot.unset).toArray = ls at hl ⊢
  have hl : lv_has ls 1 [(0, .int x)] := hl
  refine lv_iload_n hx hb dX12_isPlace_0 rfl (lv_at hl 0 rfl) ?_
  refine lv_if_lt (tgt := 34) hx hb dX12_isPlace_1 (by decide) (fun c1 => ?_) (fun c1 => ?_)
  · refine lv_iconst (v := 0) hx hb dX12_isPlace_34 (by decide) ?_
    have hP9 := hP.sub (ws' := []) [] rfl
    have hD9 := hD.sub (ws' := []) [] (by decide) rfl
    exact W.zret (v := 0) hx hb hr (by decide) (fun t ht hW => ⟨⟨0, (), rfl, mPl_neg c1, by rw [ht]; exact hP9, hD9⟩, hS.F ht⟩) hS.2.2 dX12_isPlace_35
  · refine lv_iload_n hx hb dX12_isPlace_4 rfl (lv_at hl 0 rfl) ?_
    refine lv_bipush (v := 100) hx hb dX12_isPlace_5 (by decide) ?_
    refine lv_idiv hx hb dX12_isPlace_7 (by decide) ?_
    refine lv_topi (fun x2 ex2 => ?_)
    refine lv_iconst (v := 0) hx hb dX12_isPlace_8 (by decide) ?_
    refine lv_bipush (v := 29) hx hb dX12_isPlace_9 (by decide) ?_
    have hPc := hP.sub (ws' := []) [] rfl
    have hDc := hD.sub (ws' := []) [] (by decide) rfl
    have hFc := va_free (wc := []) hD hS hA [] rfl
    refine va_calli (va_runS (As := [.int x2, .int 0, .int 29]) (rest := []) ⟨hx, hb, hml, hown, hts⟩ (c_X12_in l E x2 0 29 s.heap.size ) (va_cwS 3 hts gX12_isPlace_X12_in rfl rfl rfl (by decide +kernel) ⟨Nat.le_of_ble_eq_true rfl, Nat.le_of_ble_eq_true rfl⟩) ⟨pcW_blind, (pcW_pre hPc hkn hDc hst hS hFc)⟩ rfl rfl hl.1 rfl (lv_room (Nat.le_of_ble_eq_true rfl)) dX12_isPlace_11 ⟨Nat.le_of_ble_eq_true rfl, Nat.le_of_ble_eq_true rfl⟩) hS (fun q _ h => hFc q h) hFc (fun r3 u t H1 locs ht hvm hw4 hB hz1 hk1 hS => ?_)
    obtain ⟨hP1, hD1⟩ := hB
    rw [ht] at hP1
    try dsimp only at hw4
    obtain ⟨hP, hD⟩ := va_join (wr := []) (w1 := []) hP hD [] [] rfl rfl (by decide) (by decide) hk1 hFc hP1 hD1
    generalize H1 = H at hP hS ⊢
    have hP : va_P E.1 vwCl [] H := hP
    have hD : va_D A [] := hD
    refine lv_if_eq (tgt := 34) hx hb dX12_isPlace_14 (by decide) (fun c5 => ?_) (fun c5 => ?_)
    · have b6 : inR x2 0 29 = false := bz hw4 c5
      refine lv_iconst (v := 0) hx hb dX12_isPlace_34 (by decide) ?_
      have hP9 := hP.sub (ws' := []) [] rfl
      have hD9 := hD.sub (ws' := []) [] (by decide) rfl
      exact W.zret (v := 0) hx hb hr (by decide) (fun t ht hW => ⟨⟨0, (), rfl, mPl_col (by rw [ex2] at b6; exact b6), by rw [ht]; exact hP9, hD9⟩, hS.F ht⟩) hS.2.2 dX12_isPlace_35
    · have b7 : inR x2 0 29 = true := bn hw4 c5
      refine lv_iload_n hx hb dX12_isPlace_17 rfl (lv_at hl 0 rfl) ?_
      refine lv_bipush (v := 100) hx hb dX12_isPlace_18 (by decide) ?_
      refine lv_irem hx hb dX12_isPlace_20 (by decide) ?_
      refine lv_topi (fun x8 ex8 => ?_)
      refine lv_iconst (v := 0) hx hb dX12_isPlace_21 (by decide) ?_
      refine lv_bipush (v := 19) hx hb dX12_isPlace_22 (by decide) ?_
      have hPc := hP.sub (ws' := []) [] rfl
      have hDc := hD.sub (ws' := []) [] (by decide) rfl
      have hFc := va_free (wc := []) hD hS hA [] rfl
      refine va_calli (va_runS (As := [.int x8, .int 0, .int 19]) (rest := []) ⟨hx, hb, hml, hown, hts⟩ (c_X12_in l E x8 0 19 H.size ) (va_cwS 3 hts gX12_isPlace_X12_in rfl rfl rfl (by decide +kernel) ⟨Nat.le_of_ble_eq_true rfl, Nat.le_of_ble_eq_true rfl⟩) ⟨pcW_blind, (pcW_pre hPc hkn hDc hst hS hFc)⟩ rfl rfl hl.1 rfl (lv_room (Nat.le_of_ble_eq_true rfl)) dX12_isPlace_24 ⟨Nat.le_of_ble_eq_true rfl, Nat.le_of_ble_eq_true rfl⟩) hS (fun q _ h => hFc q h) hFc (fun r9 u t H1 locs ht hvm hw10 hB hz1 hk1 hS => ?_)
      obtain ⟨hP1, hD1⟩ := hB
      rw [ht] at hP1
      try dsimp only at hw10
      obtain ⟨hP, hD⟩ := va_join (wr := []) (w1 := []) hP hD [] [] rfl rfl (by decide) (by decide) hk1 hFc hP1 hD1
      generalize H1 = H at hP hS ⊢
      have hP : va_P E.1 vwCl [] H := hP
      have hD : va_D A [] := hD
      refine lv_if_eq (tgt := 34) hx hb dX12_isPlace_27 (by decide) (fun c11 => ?_) (fun c11 => ?_)
      · have b12 : inR x8 0 19 = false := bz hw10 c11
        refine lv_iconst (v := 0) hx hb dX12_isPlace_34 (by decide) ?_
        have hP9 := hP.sub (ws' := []) [] rfl
        have hD9 := hD.sub (ws' := []) [] (by decide) rfl
        exact W.zret (v := 0) hx hb hr (by decide) (fun t ht hW => ⟨⟨0, (), rfl, mPl_row (by rw [ex8] at b12; exact b12), by rw [ht]; exact hP9, hD9⟩, hS.F ht⟩) hS.2.2 dX12_isPlace_35
      · have b13 : inR x8 0 19 = true := bn hw10 c11
        refine lv_iconst (v := 1) hx hb dX12_isPlace_30 (by decide) ?_
        refine lv_goto (tgt := 35) hx hb dX12_isPlace_31 (by decide) ?_
        have hP9 := hP.sub (ws' := []) [] rfl
        have hD9 := hD.sub (ws' := []) [] (by decide) rfl
        exact W.zret (v := 1) hx hb hr (by decide) (fun t ht hW => ⟨⟨1, (), rfl, mPl_ok c1 (by rw [ex2] at b7; exact b7) (by rw [ex8] at b13; exact b13), by rw [ht]; exact hP9, hD9⟩, hS.F ht⟩) hS.2.2 dX12_isPlace_35
set_option maxHeartbeats 4000000 in
set_option maxRecDepth 100000 in
theorem c_X12_end (l : Launch) (E : vE) (h0 : Nat) (q : Nat → Nat) (n : Int32) (sz : Nat) : Met l yX12_end wsX12_end ({ frames := 2, cells := 0, slots := 0, locals := 42 }) (pcW E [.ref h0, .int n] sz [(h0, .inr (12, mO q))]) (va_Qi (fun (r : Int32) (_ : Unit) => r = cond (inR n 0 0) n (-1)) (fun (_ : Unit) (t : State) => wB E (va_A [(h0, .inr (12, mO q))] sz) [] t) (va_A [(h0, .inr (12, mO q))] sz)) 0 0 (va_A [(h0, .inr (12, mO q))] sz) := by
  refine Met.ofW (cc := cX12_end) (maxL := 2) (ret := (some .int)) (by decide) rfl ?_
  intro p e s m args below meth c s₁ B hml hv
  obtain ⟨rfl, hsz, hP, hkn, hD0, hst⟩ := hv
  have hx := B.exec
  have hb := B.bytes
  have hr := B.returns
  have hts := atoms_spec (ws := wsX12_end) B.pre
  have hown : s.vm.findClass RX12 = some m.cls := findClass_of_methodNamed B.named
  have hlocks := B.notSynchronized
  subst hsz
  have hD := hD0.self (sz := s.heap.size)
  have hK := hkn.1
  have hAO := hkn.2.2
  generalize hAe : va_A [(h0, .inr (12, mO q))] s.heap.size = A at hD hst ⊢
  have hA : ∀ q : Nat, s.heap.size ≤ q → A q := fun q h => by rw [← hAe]; exact Or.inr h
  have hS : va_S A s.heap s.heap [] := va_S.rf
  have hP : va_P E.1 vwCl [(h0, .inr (12, mO q))] s.heap := hP
  have hl := lv_entry ([.ref h0, .int n]) (n := 2) (Nat.le_of_ble_eq_true rfl)
  rw [lg_entry_eq]
  generalize (lg_sl ([.ref h0, .int n]) ++ List.replicate (2 - (lg_sl ([.ref h0, .int n])).length) Slot.unset).toArray = ls at hl ⊢
  have hl : lv_has ls 2 [(0, .ref h0), (1, .int n)] := hl
  have fl152 := hts (.fieldLink RX12 152 "BoatsHomeModel" "taped" "I") (by decide +kernel)
  have inX12 : ∀ w ∈ u_ws RX12 TX12 59, w ∈ wsX12_end := by decide +kernel
  refine lv_iload_n hx hb dX12_end_0 rfl (lv_at hl 1 rfl) ?_
  refine lv_if_lt (tgt := 12) hx hb dX12_end_1 (by decide) (fun c1 => ?_) (fun c1 => ?_)
  · refine lv_iconst (v := (-1)) hx hb dX12_end_12 (by decide) ?_
    have hP9 := hP.sub (ws' := []) [] rfl
    have hD9 := hD.sub (ws' := []) [] (by decide) rfl
    exact W.iret (v := (-1)) hx hb hr (fun t ht hW => ⟨⟨(-1), (), rfl, endA c1, by rw [ht]; exact hP9, hD9⟩, hS.F ht⟩) hS.2.2 dX12_end_13
  · refine lv_iload_n hx hb dX12_end_4 rfl (lv_at hl 1 rfl) ?_
    refine lv_aload_n hx hb dX12_end_5 rfl (lv_at hl 0 rfl) ?_
    refine va_get (D := E.1) (ci := 12) (v := .int 0) (C := RX12) (T := TX12) (N := 59) hx hb hts inX12 hown hK hP 0 rfl rfl 1 (by decide) fl152 (fun _ h9 => h9) rfl dX12_end_6 ?_
    refine lv_icmp_le (tgt := 14) hx hb dX12_end_9 (by decide) (fun c2 => ?_) (fun c2 => ?_)
    · refine lv_aload_n hx hb dX12_end_14 rfl (lv_at hl 0 rfl) ?_
      refine lv_iload_n hx hb dX12_end_15 rfl (lv_at hl 1 rfl) ?_
      refine va_put (D := E.1) (ci := 12) (v := .int n) (ty := .int) (C := RX12) (T := TX12) (N := 59) hx hb hts inX12 tyX12 tyX12_ok nmX12 hown hK hP hD hS 0 rfl rfl 1 (by decide) fl152 (fun _ h9 => h9) rfl (by decide +kernel) rfl rfl (Nat.le_of_ble_eq_true rfl) dX12_end_16 (fun H locs hP hD hS => ?_)
      have hP : va_P E.1 vwCl [(h0, .inr (12, (mO q).set 1 (.int n)))] H := hP
      have hD : va_D A [(h0, .inr (12, (mO q).set 1 (.int n)))] := hD
      refine lv_iload_n hx hb dX12_end_19 rfl (lv_at hl 1 rfl) ?_
      have hP9 := hP.sub (ws' := []) [] rfl
      have hD9 := hD.sub (ws' := []) [] (by decide) rfl
      exact W.iret (v := n) hx hb hr (fun t ht hW => ⟨⟨n, (), rfl, endC c1 c2, by rw [ht]; exact hP9, hD9⟩, hS.F ht⟩) hS.2.2 dX12_end_20
    · refine lv_iconst (v := (-1)) hx hb dX12_end_12 (by decide) ?_
      have hP9 := hP.sub (ws' := []) [] rfl
      have hD9 := hD.sub (ws' := []) [] (by decide) rfl
      exact W.iret (v := (-1)) hx hb hr (fun t ht hW => ⟨⟨(-1), (), rfl, endB c2, by rw [ht]; exact hP9, hD9⟩, hS.F ht⟩) hS.2.2 dX12_end_13
set_option maxHeartbeats 4000000 in
set_option maxRecDepth 100000 in
theorem c_X12_feed (l : Launch) (E : vE) (h0 : Nat) (q : Nat → Nat) (a1 : Int32) (a2 : Int32) (a3 : Int32) (a4 : Int32) (a5 : Int32) (sz : Nat) : Met l yX12_feed wsX12_feed ({ frames := 2, cells := 0, slots := 0, locals := 42 }) (pcW E [.ref h0, .int a1, .int a2, .int a3, .int a4, .int a5] sz [(h0, .inr (12, mO q)), (q 0, .inl (E.2 3, 800, .inl (fun _ => 0)))]) (va_Qi (fun (r : Int32) (_ : Unit) => r = 20) (fun (_ : Unit) (t : State) => wB E (va_A [(h0, .inr (12, mO q)), (q 0, .inl (E.2 3, 800, .inl (fun _ => 0)))] sz) [] t) (va_A [(h0, .inr (12, mO q)), (q 0, .inl (E.2 3, 800, .inl (fun _ => 0)))] sz)) 0 0 (va_A [(h0, .inr (12, mO q)), (q 0, .inl (E.2 3, 800, .inl (fun _ => 0)))] sz) := by
  refine Met.ofW (cc := cX12_feed) (maxL := 9) (ret := (some .int)) (by decide) rfl ?_
  intro p e s m args below meth c s₁ B hml hv
  obtain ⟨rfl, hsz, hP, hkn, hD0, hst⟩ := hv
  have hx := B.exec
  have hb := B.bytes
  have hr := B.returns
  have hts := atoms_spec (ws := wsX12_feed) B.pre
  have hown : s.vm.findClass RX12 = some m.cls := findClass_of_methodNamed B.named
  have hlocks := B.notSynchronized
  subst hsz
  have hD := hD0.self (sz := s.heap.size)
  have hK := hkn.1
  have hAO := hkn.2.2
  generalize hAe : va_A [(h0, .inr (12, mO q)), (q 0, .inl (E.2 3, 800, .inl (fun _ => 0)))] s.heap.size = A at hD hst ⊢
  have hA : ∀ q : Nat, s.heap.size ≤ q → A q := fun q h => by rw [← hAe]; exact Or.inr h
  have hS : va_S A s.heap s.heap [] := va_S.rf
  have hP : va_P E.1 vwCl [(h0, .inr (12, mO q)), (q 0, .inl (E.2 3, 800, .inl (fun _ => 0)))] s.heap := hP
  have hl := lv_entry ([.ref h0, .int a1, .int a2, .int a3, .int a4, .int a5]) (n := 9) (Nat.le_of_ble_eq_true rfl)
  rw [lg_entry_eq]
  generalize (lg_sl ([.ref h0, .int a1, .int a2, .int a3, .int a4, .int a5]) ++ List.replicate (9 - (lg_sl ([.ref h0, .int a1, .int a2, .int a3, .int a4, .int a5])).length) Slot.unset).toArray = ls at hl ⊢
  have hl : lv_has ls 9 [(0, .ref h0), (1, .int a1), (2, .int a2), (3, .int a3), (4, .int a4), (5, .int a5)] := hl
  have fl7 := hts (.fieldLink RX12 7 "BoatsHomeModel" "tape" "[B") (by decide +kernel)
  have fl152 := hts (.fieldLink RX12 152 "BoatsHomeModel" "taped" "I") (by decide +kernel)
  have inX12 : ∀ w ∈ u_ws RX12 TX12 59, w ∈ wsX12_feed := by decide +kernel
  refine lv_aload_n hx hb dX12_feed_0 rfl (lv_at hl 0 rfl) ?_
  refine va_get (D := E.1) (ci := 12) (v := .int 0) (C := RX12) (T := TX12) (N := 59) hx hb hts inX12 hown hK hP 0 rfl rfl 1 (by decide) fl152 (fun _ h9 => h9) rfl dX12_feed_1 ?_
  refine lv_bipush (v := 20) hx hb dX12_feed_4 (by decide) ?_
  refine lv_iadd hx hb dX12_feed_6 ?_
  refine lv_topi (fun x1 ex1 => ?_)
  obtain rfl : x1 = 20 := ex1.trans (by decide +kernel)
  refine lv_sipush (v := 800) hx hb dX12_feed_7 (by decide) ?_
  refine lv_icmp_le (tgt := 16) hx hb dX12_feed_10 (by decide) (fun _ => ?_) (fun c9 => absurd c9 (by decide))
  refine lv_iconst (v := 0) hx hb dX12_feed_16 (by decide) ?_
  refine lv_istore (lv' := [(6, .int 0), (0, .ref h0), (1, .int a1), (2, .int a2), (3, .int a3), (4, .int a4), (5, .int a5)]) hx hb dX12_feed_17 hl (by decide) rfl (fun ls hl => ?_)
  refine lv_iload hx hb dX12_feed_19 (lv_at hl 0 rfl) ?_
  refine lv_iconst (v := 5) hx hb dX12_feed_21 (by decide) ?_
  refine lv_icmp_ge (tgt := 115) hx hb dX12_feed_22 (by decide) (fun c9 => absurd c9 (by decide)) (fun _ => ?_)
  refine lv_iload hx hb dX12_feed_25 (lv_at hl 0 rfl) ?_
  refine lv_if_ne (tgt := 34) hx hb dX12_feed_27 (by decide) (fun c9 => absurd c9 (by decide)) (fun _ => ?_)
  refine lv_iload_n hx hb dX12_feed_30 rfl (lv_at hl 2 rfl) ?_
  refine lv_goto (tgt := 67) hx hb dX12_feed_31 (by decide) ?_
  refine lv_istore (lv' := [(7, .int a1), (6, .int 0), (0, .ref h0), (1, .int a1), (2, .int a2), (3, .int a3), (4, .int a4), (5, .int a5)]) hx hb dX12_feed_67 hl (by decide) rfl (fun ls hl => ?_)
  refine lv_bipush (v := 24) hx hb dX12_feed_69 (by decide) ?_
  refine lv_istore (lv' := [(8, .int 24), (7, .int a1), (6, .int 0), (0, .ref h0), (1, .int a1), (2, .int a2), (3, .int a3), (4, .int a4), (5, .int a5)]) hx hb dX12_feed_71 hl (by decide) rfl (fun ls hl => ?_)
  refine lv_iload hx hb dX12_feed_73 (lv_at hl 0 rfl) ?_
  refine lv_if_lt (tgt := 109) hx hb dX12_feed_75 (by decide) (fun c9 => absurd c9 (by decide)) (fun _ => ?_)
  refine lv_aload_n hx hb dX12_feed_78 rfl (lv_at hl 3 rfl) ?_
  refine va_get (D := E.1) (ci := 12) (v := .ref (q 0)) (C := RX12) (T := TX12) (N := 59) hx hb hts inX12 hown hK hP 0 rfl rfl 0 (by decide) fl7 (fun _ h9 => h9) rfl dX12_feed_79 ?_
  refine lv_aload_n hx hb dX12_feed_82 rfl (lv_at hl 3 rfl) ?_
  refine va_get (D := E.1) (ci := 12) (v := .int 0) (C := RX12) (T := TX12) (N := 59) hx hb hts inX12 hown hK hP 0 rfl rfl 1 (by decide) fl152 (fun _ h9 => h9) rfl dX12_feed_83 ?_
  refine lv_iload hx hb dX12_feed_86 (lv_at hl 1 rfl) ?_
  refine lv_iload hx hb dX12_feed_88 (lv_at hl 0 rfl) ?_
  refine lv_ishr hx hb dX12_feed_90 ?_
  refine lv_topi (fun x2 ex2 => ?_)
  refine lv_i2b hx hb dX12_feed_91 rfl ?_
  refine lv_topi (fun x3 ex3 => ?_)
  refine va_bast hx hb hK hP hD hS 1 3 rfl rfl (show vp_in 0 800 from by unfold vp_in; decide) dX12_feed_92 (fun H locs hP hD hS => ?_)
  have hP : va_P E.1 vwCl [(h0, .inr (12, mO q)), (q 0, .inl (E.2 3, 800, .inl (upd (fun _ => 0) (Int32.toNatClampNeg 0) (vp_nar .byte x3))))] H := hP
  have hD : va_D A [(h0, .inr (12, mO q)), (q 0, .inl (E.2 3, 800, .inl (upd (fun _ => 0) (Int32.toNatClampNeg 0) (vp_nar .byte x3))))] := hD
  obtain ⟨f4, ef4⟩ : ∃ g : Nat → Int32, g = upd (fun _ => 0) (Int32.toNatClampNeg 0) (vp_nar .byte x3) := ⟨_, rfl⟩
  rw [← ef4] at hP hD
  refine lv_aload_n hx hb dX12_feed_93 rfl (lv_at hl 3 rfl) ?_
  refine lv_dup hx hb dX12_feed_94 rfl ?_
  refine va_get (D := E.1) (ci := 12) (v := .int 0) (C := RX12) (T := TX12) (N := 59) hx hb hts inX12 hown hK hP 0 rfl rfl 1 (by decide) fl152 (fun _ h9 => h9) rfl dX12_feed_95 ?_
  refine lv_iconst (v := 1) hx hb dX12_feed_98 (by decide) ?_
  refine lv_iadd hx hb dX12_feed_99 ?_
  refine lv_topi (fun x5 ex5 => ?_)
  obtain rfl : x5 = 1 := ex5.trans (by decide +kernel)
  refine va_put (D := E.1) (ci := 12) (v := .int 1) (ty := .int) (C := RX12) (T := TX12) (N := 59) hx hb hts inX12 tyX12 tyX12_ok nmX12 hown hK hP hD hS 0 rfl rfl 1 (by decide) fl152 (fun _ h9 => h9) rfl (by decide +kernel) rfl rfl (Nat.le_of_ble_eq_true rfl) dX12_feed_100 (fun H locs hP hD hS => ?_)
  have hP : va_P E.1 vwCl [(h0, .inr (12, (mO q).set 1 (.int 1))), (q 0, .inl (E.2 3, 800, .inl f4))] H := hP
  have hD : va_D A [(h0, .inr (12, (mO q).set 1 (.int 1))), (q 0, .inl (E.2 3, 800, .inl f4))] := hD
  refine lv_iinc (v := 16) (lv' := [(8, .int 16), (7, .int a1), (6, .int 0), (0, .ref h0), (1, .int a1), (2, .int a2), (3, .int a3), (4, .int a4), (5, .int a5)]) hx hb dX12_feed_103 hl (k := 0) rfl (by decide) (by decide) rfl (fun ls hl => ?_)
  refine lv_goto (tgt := 73) hx hb dX12_feed_106 (by decide) ?_
  refine lv_iload hx hb dX12_feed_73 (lv_at hl 0 rfl) ?_
  refine lv_if_lt (tgt := 109) hx hb dX12_feed_75 (by decide) (fun c9 => absurd c9 (by decide)) (fun _ => ?_)
  refine lv_aload_n hx hb dX12_feed_78 rfl (lv_at hl 3 rfl) ?_
  refine va_get (D := E.1) (ci := 12) (v := .ref (q 0)) (C := RX12) (T := TX12) (N := 59) hx hb hts inX12 hown hK hP 0 rfl rfl 0 (by decide) fl7 (fun _ h9 => h9) rfl dX12_feed_79 ?_
  refine lv_aload_n hx hb dX12_feed_82 rfl (lv_at hl 3 rfl) ?_
  refine va_get (D := E.1) (ci := 12) (v := .int 1) (C := RX12) (T := TX12) (N := 59) hx hb hts inX12 hown hK hP 0 rfl rfl 1 (by decide) fl152 (fun _ h9 => h9) rfl dX12_feed_83 ?_
  refine lv_iload hx hb dX12_feed_86 (lv_at hl 1 rfl) ?_
  refine lv_iload hx hb dX12_feed_88 (lv_at hl 0 rfl) ?_
  refine lv_ishr hx hb dX12_feed_90 ?_
  refine lv_topi (fun x6 ex6 => ?_)
  refine lv_i2b hx hb dX12_feed_91 rfl ?_
  refine lv_topi (fun x7 ex7 => ?_)
  refine va_bast hx hb hK hP hD hS 1 3 rfl rfl (show vp_in 1 800 from by unfold vp_in; decide) dX12_feed_92 (fun H locs hP hD hS => ?_)
  have hP : va_P E.1 vwCl [(h0, .inr (12, (mO q).set 1 (.int 1))), (q 0, .inl (E.2 3, 800, .inl (upd f4 (Int32.toNatClampNeg 1) (vp_nar .byte x7))))] H := hP
  have hD : va_D A [(h0, .inr (12, (mO q).set 1 (.int 1))), (q 0, .inl (E.2 3, 800, .inl (upd f4 (Int32.toNatClampNeg 1) (vp_nar .byte x7))))] := hD
  obtain ⟨f8, ef8⟩ : ∃ g : Nat → Int32, g = upd f4 (Int32.toNatClampNeg 1) (vp_nar .byte x7) := ⟨_, rfl⟩
  rw [← ef8] at hP hD
  refine lv_aload_n hx hb dX12_feed_93 rfl (lv_at hl 3 rfl) ?_
  refine lv_dup hx hb dX12_feed_94 rfl ?_
  refine va_get (D := E.1) (ci := 12) (v := .int 1) (C := RX12) (T := TX12) (N := 59) hx hb hts inX12 hown hK hP 0 rfl rfl 1 (by decide) fl152 (fun _ h9 => h9) rfl dX12_feed_95 ?_
  refine lv_iconst (v := 1) hx hb dX12_feed_98 (by decide) ?_
  refine lv_iadd hx hb dX12_feed_99 ?_
  refine lv_topi (fun x9 ex9 => ?_)
  obtain rfl : x9 = 2 := ex9.trans (by decide +kernel)
  refine va_put (D := E.1) (ci := 12) (v := .int 2) (ty := .int) (C := RX12) (T := TX12) (N := 59) hx hb hts inX12 tyX12 tyX12_ok nmX12 hown hK hP hD hS 0 rfl rfl 1 (by decide) fl152 (fun _ h9 => h9) rfl (by decide +kernel) rfl rfl (Nat.le_of_ble_eq_true rfl) dX12_feed_100 (fun H locs hP hD hS => ?_)
  have hP : va_P E.1 vwCl [(h0, .inr (12, (mO q).set 1 (.int 2))), (q 0, .inl (E.2 3, 800, .inl f8))] H := hP
  have hD : va_D A [(h0, .inr (12, (mO q).set 1 (.int 2))), (q 0, .inl (E.2 3, 800, .inl f8))] := hD
  refine lv_iinc (v := 8) (lv' := [(8, .int 8), (7, .int a1), (6, .int 0), (0, .ref h0), (1, .int a1), (2, .int a2), (3, .int a3), (4, .int a4), (5, .int a5)]) hx hb dX12_feed_103 hl (k := 0) rfl (by decide) (by decide) rfl (fun ls hl => ?_)
  refine lv_goto (tgt := 73) hx hb dX12_feed_106 (by decide) ?_
  refine lv_iload hx hb dX12_feed_73 (lv_at hl 0 rfl) ?_
  refine lv_if_lt (tgt := 109) hx hb dX12_feed_75 (by decide) (fun c9 => absurd c9 (by decide)) (fun _ => ?_)
  refine lv_aload_n hx hb dX12_feed_78 rfl (lv_at hl 3 rfl) ?_
  refine va_get (D := E.1) (ci := 12) (v := .ref (q 0)) (C := RX12) (T := TX12) (N := 59) hx hb hts inX12 hown hK hP 0 rfl rfl 0 (by decide) fl7 (fun _ h9 => h9) rfl dX12_feed_79 ?_
  refine lv_aload_n hx hb dX12_feed_82 rfl (lv_at hl 3 rfl) ?_
  refine va_get (D := E.1) (ci := 12) (v := .int 2) (C := RX12) (T := TX12) (N := 59) hx hb hts inX12 hown hK hP 0 rfl rfl 1 (by decide) fl152 (fun _ h9 => h9) rfl dX12_feed_83 ?_
  refine lv_iload hx hb dX12_feed_86 (lv_at hl 1 rfl) ?_
  refine lv_iload hx hb dX12_feed_88 (lv_at hl 0 rfl) ?_
  refine lv_ishr hx hb dX12_feed_90 ?_
  refine lv_topi (fun x10 ex10 => ?_)
  refine lv_i2b hx hb dX12_feed_91 rfl ?_
  refine lv_topi (fun x11 ex11 => ?_)
  refine va_bast hx hb hK hP hD hS 1 3 rfl rfl (show vp_in 2 800 from by unfold vp_in; decide) dX12_feed_92 (fun H locs hP hD hS => ?_)
  have hP : va_P E.1 vwCl [(h0, .inr (12, (mO q).set 1 (.int 2))), (q 0, .inl (E.2 3, 800, .inl (upd f8 (Int32.toNatClampNeg 2) (vp_nar .byte x11))))] H := hP
  have hD : va_D A [(h0, .inr (12, (mO q).set 1 (.int 2))), (q 0, .inl (E.2 3, 800, .inl (upd f8 (Int32.toNatClampNeg 2) (vp_nar .byte x11))))] := hD
  obtain ⟨f12, ef12⟩ : ∃ g : Nat → Int32, g = upd f8 (Int32.toNatClampNeg 2) (vp_nar .byte x11) := ⟨_, rfl⟩
  rw [← ef12] at hP hD
  refine lv_aload_n hx hb dX12_feed_93 rfl (lv_at hl 3 rfl) ?_
  refine lv_dup hx hb dX12_feed_94 rfl ?_
  refine va_get (D := E.1) (ci := 12) (v := .int 2) (C := RX12) (T := TX12) (N := 59) hx hb hts inX12 hown hK hP 0 rfl rfl 1 (by decide) fl152 (fun _ h9 => h9) rfl dX12_feed_95 ?_
  refine lv_iconst (v := 1) hx hb dX12_feed_98 (by decide) ?_
  refine lv_iadd hx hb dX12_feed_99 ?_
  refine lv_topi (fun x13 ex13 => ?_)
  obtain rfl : x13 = 3 := ex13.trans (by decide +kernel)
  refine va_put (D := E.1) (ci := 12) (v := .int 3) (ty := .int) (C := RX12) (T := TX12) (N := 59) hx hb hts inX12 tyX12 tyX12_ok nmX12 hown hK hP hD hS 0 rfl rfl 1 (by decide) fl152 (fun _ h9 => h9) rfl (by decide +kernel) rfl rfl (Nat.le_of_ble_eq_true rfl) dX12_feed_100 (fun H locs hP hD hS => ?_)
  have hP : va_P E.1 vwCl [(h0, .inr (12, (mO q).set 1 (.int 3))), (q 0, .inl (E.2 3, 800, .inl f12))] H := hP
  have hD : va_D A [(h0, .inr (12, (mO q).set 1 (.int 3))), (q 0, .inl (E.2 3, 800, .inl f12))] := hD
  refine lv_iinc (v := 0) (lv' := [(8, .int 0), (7, .int a1), (6, .int 0), (0, .ref h0), (1, .int a1), (2, .int a2), (3, .int a3), (4, .int a4), (5, .int a5)]) hx hb dX12_feed_103 hl (k := 0) rfl (by decide) (by decide) rfl (fun ls hl => ?_)
  refine lv_goto (tgt := 73) hx hb dX12_feed_106 (by decide) ?_
  refine lv_iload hx hb dX12_feed_73 (lv_at hl 0 rfl) ?_
  refine lv_if_lt (tgt := 109) hx hb dX12_feed_75 (by decide) (fun c9 => absurd c9 (by decide)) (fun _ => ?_)
  refine lv_aload_n hx hb dX12_feed_78 rfl (lv_at hl 3 rfl) ?_
  refine va_get (D := E.1) (ci := 12) (v := .ref (q 0)) (C := RX12) (T := TX12) (N := 59) hx hb hts inX12 hown hK hP 0 rfl rfl 0 (by decide) fl7 (fun _ h9 => h9) rfl dX12_feed_79 ?_
  refine lv_aload_n hx hb dX12_feed_82 rfl (lv_at hl 3 rfl) ?_
  refine va_get (D := E.1) (ci := 12) (v := .int 3) (C := RX12) (T := TX12) (N := 59) hx hb hts inX12 hown hK hP 0 rfl rfl 1 (by decide) fl152 (fun _ h9 => h9) rfl dX12_feed_83 ?_
  refine lv_iload hx hb dX12_feed_86 (lv_at hl 1 rfl) ?_
  refine lv_iload hx hb dX12_feed_88 (lv_at hl 0 rfl) ?_
  refine lv_ishr hx hb dX12_feed_90 ?_
  refine lv_topi (fun x14 ex14 => ?_)
  refine lv_i2b hx hb dX12_feed_91 rfl ?_
  refine lv_topi (fun x15 ex15 => ?_)
  refine va_bast hx hb hK hP hD hS 1 3 rfl rfl (show vp_in 3 800 from by unfold vp_in; decide) dX12_feed_92 (fun H locs hP hD hS => ?_)
  have hP : va_P E.1 vwCl [(h0, .inr (12, (mO q).set 1 (.int 3))), (q 0, .inl (E.2 3, 800, .inl (upd f12 (Int32.toNatClampNeg 3) (vp_nar .byte x15))))] H := hP
  have hD : va_D A [(h0, .inr (12, (mO q).set 1 (.int 3))), (q 0, .inl (E.2 3, 800, .inl (upd f12 (Int32.toNatClampNeg 3) (vp_nar .byte x15))))] := hD
  obtain ⟨f16, ef16⟩ : ∃ g : Nat → Int32, g = upd f12 (Int32.toNatClampNeg 3) (vp_nar .byte x15) := ⟨_, rfl⟩
  rw [← ef16] at hP hD
  refine lv_aload_n hx hb dX12_feed_93 rfl (lv_at hl 3 rfl) ?_
  refine lv_dup hx hb dX12_feed_94 rfl ?_
  refine va_get (D := E.1) (ci := 12) (v := .int 3) (C := RX12) (T := TX12) (N := 59) hx hb hts inX12 hown hK hP 0 rfl rfl 1 (by decide) fl152 (fun _ h9 => h9) rfl dX12_feed_95 ?_
  refine lv_iconst (v := 1) hx hb dX12_feed_98 (by decide) ?_
  refine lv_iadd hx hb dX12_feed_99 ?_
  refine lv_topi (fun x17 ex17 => ?_)
  obtain rfl : x17 = 4 := ex17.trans (by decide +kernel)
  refine va_put (D := E.1) (ci := 12) (v := .int 4) (ty := .int) (C := RX12) (T := TX12) (N := 59) hx hb hts inX12 tyX12 tyX12_ok nmX12 hown hK hP hD hS 0 rfl rfl 1 (by decide) fl152 (fun _ h9 => h9) rfl (by decide +kernel) rfl rfl (Nat.le_of_ble_eq_true rfl) dX12_feed_100 (fun H locs hP hD hS => ?_)
  have hP : va_P E.1 vwCl [(h0, .inr (12, (mO q).set 1 (.int 4))), (q 0, .inl (E.2 3, 800, .inl f16))] H := hP
  have hD : va_D A [(h0, .inr (12, (mO q).set 1 (.int 4))), (q 0, .inl (E.2 3, 800, .inl f16))] := hD
  refine lv_iinc (v := (-8)) (lv' := [(8, .int (-8)), (7, .int a1), (6, .int 0), (0, .ref h0), (1, .int a1), (2, .int a2), (3, .int a3), (4, .int a4), (5, .int a5)]) hx hb dX12_feed_103 hl (k := 0) rfl (by decide) (by decide) rfl (fun ls hl => ?_)
  refine lv_goto (tgt := 73) hx hb dX12_feed_106 (by decide) ?_
  refine lv_iload hx hb dX12_feed_73 (lv_at hl 0 rfl) ?_
  refine lv_if_lt (tgt := 109) hx hb dX12_feed_75 (by decide) (fun _ => ?_) (fun c9 => absurd c9 (by decide))
  refine lv_iinc (v := 1) (lv' := [(6, .int 1), (8, .int (-8)), (7, .int a1), (0, .ref h0), (1, .int a1), (2, .int a2), (3, .int a3), (4, .int a4), (5, .int a5)]) hx hb dX12_feed_109 hl (k := 2) rfl (by decide) (by decide) rfl (fun ls hl => ?_)
  refine lv_goto (tgt := 19) hx hb dX12_feed_112 (by decide) ?_
  refine lv_iload hx hb dX12_feed_19 (lv_at hl 0 rfl) ?_
  refine lv_iconst (v := 5) hx hb dX12_feed_21 (by decide) ?_
  refine lv_icmp_ge (tgt := 115) hx hb dX12_feed_22 (by decide) (fun c9 => absurd c9 (by decide)) (fun _ => ?_)
  refine lv_iload hx hb dX12_feed_25 (lv_at hl 0 rfl) ?_
  refine lv_if_ne (tgt := 34) hx hb dX12_feed_27 (by decide) (fun _ => ?_) (fun c9 => absurd c9 (by decide))
  refine lv_iload hx hb dX12_feed_34 (lv_at hl 0 rfl) ?_
  refine lv_iconst (v := 1) hx hb dX12_feed_36 (by decide) ?_
  refine lv_icmp_ne (tgt := 44) hx hb dX12_feed_37 (by decide) (fun c9 => absurd c9 (by decide)) (fun _ => ?_)
  refine lv_iload_n hx hb dX12_feed_40 rfl (lv_at hl 5 rfl) ?_
  refine lv_goto (tgt := 67) hx hb dX12_feed_41 (by decide) ?_
  refine lv_istore (lv' := [(7, .int a2), (6, .int 1), (8, .int (-8)), (0, .ref h0), (1, .int a1), (2, .int a2), (3, .int a3), (4, .int a4), (5, .int a5)]) hx hb dX12_feed_67 hl (by decide) rfl (fun ls hl => ?_)
  refine lv_bipush (v := 24) hx hb dX12_feed_69 (by decide) ?_
  refine lv_istore (lv' := [(8, .int 24), (7, .int a2), (6, .int 1), (0, .ref h0), (1, .int a1), (2, .int a2), (3, .int a3), (4, .int a4), (5, .int a5)]) hx hb dX12_feed_71 hl (by decide) rfl (fun ls hl => ?_)
  refine lv_iload hx hb dX12_feed_73 (lv_at hl 0 rfl) ?_
  refine lv_if_lt (tgt := 109) hx hb dX12_feed_75 (by decide) (fun c9 => absurd c9 (by decide)) (fun _ => ?_)
  refine lv_aload_n hx hb dX12_feed_78 rfl (lv_at hl 3 rfl) ?_
  refine va_get (D := E.1) (ci := 12) (v := .ref (q 0)) (C := RX12) (T := TX12) (N := 59) hx hb hts inX12 hown hK hP 0 rfl rfl 0 (by decide) fl7 (fun _ h9 => h9) rfl dX12_feed_79 ?_
  refine lv_aload_n hx hb dX12_feed_82 rfl (lv_at hl 3 rfl) ?_
  refine va_get (D := E.1) (ci := 12) (v := .int 4) (C := RX12) (T := TX12) (N := 59) hx hb hts inX12 hown hK hP 0 rfl rfl 1 (by decide) fl152 (fun _ h9 => h9) rfl dX12_feed_83 ?_
  refine lv_iload hx hb dX12_feed_86 (lv_at hl 1 rfl) ?_
  refine lv_iload hx hb dX12_feed_88 (lv_at hl 0 rfl) ?_
  refine lv_ishr hx hb dX12_feed_90 ?_
  refine lv_topi (fun x18 ex18 => ?_)
  refine lv_i2b hx hb dX12_feed_91 rfl ?_
  refine lv_topi (fun x19 ex19 => ?_)
  refine va_bast hx hb hK hP hD hS 1 3 rfl rfl (show vp_in 4 800 from by unfold vp_in; decide) dX12_feed_92 (fun H locs hP hD hS => ?_)
  have hP : va_P E.1 vwCl [(h0, .inr (12, (mO q).set 1 (.int 4))), (q 0, .inl (E.2 3, 800, .inl (upd f16 (Int32.toNatClampNeg 4) (vp_nar .byte x19))))] H := hP
  have hD : va_D A [(h0, .inr (12, (mO q).set 1 (.int 4))), (q 0, .inl (E.2 3, 800, .inl (upd f16 (Int32.toNatClampNeg 4) (vp_nar .byte x19))))] := hD
  obtain ⟨f20, ef20⟩ : ∃ g : Nat → Int32, g = upd f16 (Int32.toNatClampNeg 4) (vp_nar .byte x19) := ⟨_, rfl⟩
  rw [← ef20] at hP hD
  refine lv_aload_n hx hb dX12_feed_93 rfl (lv_at hl 3 rfl) ?_
  refine lv_dup hx hb dX12_feed_94 rfl ?_
  refine va_get (D := E.1) (ci := 12) (v := .int 4) (C := RX12) (T := TX12) (N := 59) hx hb hts inX12 hown hK hP 0 rfl rfl 1 (by decide) fl152 (fun _ h9 => h9) rfl dX12_feed_95 ?_
  refine lv_iconst (v := 1) hx hb dX12_feed_98 (by decide) ?_
  refine lv_iadd hx hb dX12_feed_99 ?_
  refine lv_topi (fun x21 ex21 => ?_)
  obtain rfl : x21 = 5 := ex21.trans (by decide +kernel)
  refine va_put (D := E.1) (ci := 12) (v := .int 5) (ty := .int) (C := RX12) (T := TX12) (N := 59) hx hb hts inX12 tyX12 tyX12_ok nmX12 hown hK hP hD hS 0 rfl rfl 1 (by decide) fl152 (fun _ h9 => h9) rfl (by decide +kernel) rfl rfl (Nat.le_of_ble_eq_true rfl) dX12_feed_100 (fun H locs hP hD hS => ?_)
  have hP : va_P E.1 vwCl [(h0, .inr (12, (mO q).set 1 (.int 5))), (q 0, .inl (E.2 3, 800, .inl f20))] H := hP
  have hD : va_D A [(h0, .inr (12, (mO q).set 1 (.int 5))), (q 0, .inl (E.2 3, 800, .inl f20))] := hD
  refine lv_iinc (v := 16) (lv' := [(8, .int 16), (7, .int a2), (6, .int 1), (0, .ref h0), (1, .int a1), (2, .int a2), (3, .int a3), (4, .int a4), (5, .int a5)]) hx hb dX12_feed_103 hl (k := 0) rfl (by decide) (by decide) rfl (fun ls hl => ?_)
  refine lv_goto (tgt := 73) hx hb dX12_feed_106 (by decide) ?_
  refine lv_iload hx hb dX12_feed_73 (lv_at hl 0 rfl) ?_
  refine lv_if_lt (tgt := 109) hx hb dX12_feed_75 (by decide) (fun c9 => absurd c9 (by decide)) (fun _ => ?_)
  refine lv_aload_n hx hb dX12_feed_78 rfl (lv_at hl 3 rfl) ?_
  refine va_get (D := E.1) (ci := 12) (v := .ref (q 0)) (C := RX12) (T := TX12) (N := 59) hx hb hts inX12 hown hK hP 0 rfl rfl 0 (by decide) fl7 (fun _ h9 => h9) rfl dX12_feed_79 ?_
  refine lv_aload_n hx hb dX12_feed_82 rfl (lv_at hl 3 rfl) ?_
  refine va_get (D := E.1) (ci := 12) (v := .int 5) (C := RX12) (T := TX12) (N := 59) hx hb hts inX12 hown hK hP 0 rfl rfl 1 (by decide) fl152 (fun _ h9 => h9) rfl dX12_feed_83 ?_
  refine lv_iload hx hb dX12_feed_86 (lv_at hl 1 rfl) ?_
  refine lv_iload hx hb dX12_feed_88 (lv_at hl 0 rfl) ?_
  refine lv_ishr hx hb dX12_feed_90 ?_
  refine lv_topi (fun x22 ex22 => ?_)
  refine lv_i2b hx hb dX12_feed_91 rfl ?_
  refine lv_topi (fun x23 ex23 => ?_)
  refine va_bast hx hb hK hP hD hS 1 3 rfl rfl (show vp_in 5 800 from by unfold vp_in; decide) dX12_feed_92 (fun H locs hP hD hS => ?_)
  have hP : va_P E.1 vwCl [(h0, .inr (12, (mO q).set 1 (.int 5))), (q 0, .inl (E.2 3, 800, .inl (upd f20 (Int32.toNatClampNeg 5) (vp_nar .byte x23))))] H := hP
  have hD : va_D A [(h0, .inr (12, (mO q).set 1 (.int 5))), (q 0, .inl (E.2 3, 800, .inl (upd f20 (Int32.toNatClampNeg 5) (vp_nar .byte x23))))] := hD
  obtain ⟨f24, ef24⟩ : ∃ g : Nat → Int32, g = upd f20 (Int32.toNatClampNeg 5) (vp_nar .byte x23) := ⟨_, rfl⟩
  rw [← ef24] at hP hD
  refine lv_aload_n hx hb dX12_feed_93 rfl (lv_at hl 3 rfl) ?_
  refine lv_dup hx hb dX12_feed_94 rfl ?_
  refine va_get (D := E.1) (ci := 12) (v := .int 5) (C := RX12) (T := TX12) (N := 59) hx hb hts inX12 hown hK hP 0 rfl rfl 1 (by decide) fl152 (fun _ h9 => h9) rfl dX12_feed_95 ?_
  refine lv_iconst (v := 1) hx hb dX12_feed_98 (by decide) ?_
  refine lv_iadd hx hb dX12_feed_99 ?_
  refine lv_topi (fun x25 ex25 => ?_)
  obtain rfl : x25 = 6 := ex25.trans (by decide +kernel)
  refine va_put (D := E.1) (ci := 12) (v := .int 6) (ty := .int) (C := RX12) (T := TX12) (N := 59) hx hb hts inX12 tyX12 tyX12_ok nmX12 hown hK hP hD hS 0 rfl rfl 1 (by decide) fl152 (fun _ h9 => h9) rfl (by decide +kernel) rfl rfl (Nat.le_of_ble_eq_true rfl) dX12_feed_100 (fun H locs hP hD hS => ?_)
  have hP : va_P E.1 vwCl [(h0, .inr (12, (mO q).set 1 (.int 6))), (q 0, .inl (E.2 3, 800, .inl f24))] H := hP
  have hD : va_D A [(h0, .inr (12, (mO q).set 1 (.int 6))), (q 0, .inl (E.2 3, 800, .inl f24))] := hD
  refine lv_iinc (v := 8) (lv' := [(8, .int 8), (7, .int a2), (6, .int 1), (0, .ref h0), (1, .int a1), (2, .int a2), (3, .int a3), (4, .int a4), (5, .int a5)]) hx hb dX12_feed_103 hl (k := 0) rfl (by decide) (by decide) rfl (fun ls hl => ?_)
  refine lv_goto (tgt := 73) hx hb dX12_feed_106 (by decide) ?_
  refine lv_iload hx hb dX12_feed_73 (lv_at hl 0 rfl) ?_
  refine lv_if_lt (tgt := 109) hx hb dX12_feed_75 (by decide) (fun c9 => absurd c9 (by decide)) (fun _ => ?_)
  refine lv_aload_n hx hb dX12_feed_78 rfl (lv_at hl 3 rfl) ?_
  refine va_get (D := E.1) (ci := 12) (v := .ref (q 0)) (C := RX12) (T := TX12) (N := 59) hx hb hts inX12 hown hK hP 0 rfl rfl 0 (by decide) fl7 (fun _ h9 => h9) rfl dX12_feed_79 ?_
  refine lv_aload_n hx hb dX12_feed_82 rfl (lv_at hl 3 rfl) ?_
  refine va_get (D := E.1) (ci := 12) (v := .int 6) (C := RX12) (T := TX12) (N := 59) hx hb hts inX12 hown hK hP 0 rfl rfl 1 (by decide) fl152 (fun _ h9 => h9) rfl dX12_feed_83 ?_
  refine lv_iload hx hb dX12_feed_86 (lv_at hl 1 rfl) ?_
  refine lv_iload hx hb dX12_feed_88 (lv_at hl 0 rfl) ?_
  refine lv_ishr hx hb dX12_feed_90 ?_
  refine lv_topi (fun x26 ex26 => ?_)
  refine lv_i2b hx hb dX12_feed_91 rfl ?_
  refine lv_topi (fun x27 ex27 => ?_)
  refine va_bast hx hb hK hP hD hS 1 3 rfl rfl (show vp_in 6 800 from by unfold vp_in; decide) dX12_feed_92 (fun H locs hP hD hS => ?_)
  have hP : va_P E.1 vwCl [(h0, .inr (12, (mO q).set 1 (.int 6))), (q 0, .inl (E.2 3, 800, .inl (upd f24 (Int32.toNatClampNeg 6) (vp_nar .byte x27))))] H := hP
  have hD : va_D A [(h0, .inr (12, (mO q).set 1 (.int 6))), (q 0, .inl (E.2 3, 800, .inl (upd f24 (Int32.toNatClampNeg 6) (vp_nar .byte x27))))] := hD
  obtain ⟨f28, ef28⟩ : ∃ g : Nat → Int32, g = upd f24 (Int32.toNatClampNeg 6) (vp_nar .byte x27) := ⟨_, rfl⟩
  rw [← ef28] at hP hD
  refine lv_aload_n hx hb dX12_feed_93 rfl (lv_at hl 3 rfl) ?_
  refine lv_dup hx hb dX12_feed_94 rfl ?_
  refine va_get (D := E.1) (ci := 12) (v := .int 6) (C := RX12) (T := TX12) (N := 59) hx hb hts inX12 hown hK hP 0 rfl rfl 1 (by decide) fl152 (fun _ h9 => h9) rfl dX12_feed_95 ?_
  refine lv_iconst (v := 1) hx hb dX12_feed_98 (by decide) ?_
  refine lv_iadd hx hb dX12_feed_99 ?_
  refine lv_topi (fun x29 ex29 => ?_)
  obtain rfl : x29 = 7 := ex29.trans (by decide +kernel)
  refine va_put (D := E.1) (ci := 12) (v := .int 7) (ty := .int) (C := RX12) (T := TX12) (N := 59) hx hb hts inX12 tyX12 tyX12_ok nmX12 hown hK hP hD hS 0 rfl rfl 1 (by decide) fl152 (fun _ h9 => h9) rfl (by decide +kernel) rfl rfl (Nat.le_of_ble_eq_true rfl) dX12_feed_100 (fun H locs hP hD hS => ?_)
  have hP : va_P E.1 vwCl [(h0, .inr (12, (mO q).set 1 (.int 7))), (q 0, .inl (E.2 3, 800, .inl f28))] H := hP
  have hD : va_D A [(h0, .inr (12, (mO q).set 1 (.int 7))), (q 0, .inl (E.2 3, 800, .inl f28))] := hD
  refine lv_iinc (v := 0) (lv' := [(8, .int 0), (7, .int a2), (6, .int 1), (0, .ref h0), (1, .int a1), (2, .int a2), (3, .int a3), (4, .int a4), (5, .int a5)]) hx hb dX12_feed_103 hl (k := 0) rfl (by decide) (by decide) rfl (fun ls hl => ?_)
  refine lv_goto (tgt := 73) hx hb dX12_feed_106 (by decide) ?_
  refine lv_iload hx hb dX12_feed_73 (lv_at hl 0 rfl) ?_
  refine lv_if_lt (tgt := 109) hx hb dX12_feed_75 (by decide) (fun c9 => absurd c9 (by decide)) (fun _ => ?_)
  refine lv_aload_n hx hb dX12_feed_78 rfl (lv_at hl 3 rfl) ?_
  refine va_get (D := E.1) (ci := 12) (v := .ref (q 0)) (C := RX12) (T := TX12) (N := 59) hx hb hts inX12 hown hK hP 0 rfl rfl 0 (by decide) fl7 (fun _ h9 => h9) rfl dX12_feed_79 ?_
  refine lv_aload_n hx hb dX12_feed_82 rfl (lv_at hl 3 rfl) ?_
  refine va_get (D := E.1) (ci := 12) (v := .int 7) (C := RX12) (T := TX12) (N := 59) hx hb hts inX12 hown hK hP 0 rfl rfl 1 (by decide) fl152 (fun _ h9 => h9) rfl dX12_feed_83 ?_
  refine lv_iload hx hb dX12_feed_86 (lv_at hl 1 rfl) ?_
  refine lv_iload hx hb dX12_feed_88 (lv_at hl 0 rfl) ?_
  refine lv_ishr hx hb dX12_feed_90 ?_
  refine lv_topi (fun x30 ex30 => ?_)
  refine lv_i2b hx hb dX12_feed_91 rfl ?_
  refine lv_topi (fun x31 ex31 => ?_)
  refine va_bast hx hb hK hP hD hS 1 3 rfl rfl (show vp_in 7 800 from by unfold vp_in; decide) dX12_feed_92 (fun H locs hP hD hS => ?_)
  have hP : va_P E.1 vwCl [(h0, .inr (12, (mO q).set 1 (.int 7))), (q 0, .inl (E.2 3, 800, .inl (upd f28 (Int32.toNatClampNeg 7) (vp_nar .byte x31))))] H := hP
  have hD : va_D A [(h0, .inr (12, (mO q).set 1 (.int 7))), (q 0, .inl (E.2 3, 800, .inl (upd f28 (Int32.toNatClampNeg 7) (vp_nar .byte x31))))] := hD
  obtain ⟨f32, ef32⟩ : ∃ g : Nat → Int32, g = upd f28 (Int32.toNatClampNeg 7) (vp_nar .byte x31) := ⟨_, rfl⟩
  rw [← ef32] at hP hD
  refine lv_aload_n hx hb dX12_feed_93 rfl (lv_at hl 3 rfl) ?_
  refine lv_dup hx hb dX12_feed_94 rfl ?_
  refine va_get (D := E.1) (ci := 12) (v := .int 7) (C := RX12) (T := TX12) (N := 59) hx hb hts inX12 hown hK hP 0 rfl rfl 1 (by decide) fl152 (fun _ h9 => h9) rfl dX12_feed_95 ?_
  refine lv_iconst (v := 1) hx hb dX12_feed_98 (by decide) ?_
  refine lv_iadd hx hb dX12_feed_99 ?_
  refine lv_topi (fun x33 ex33 => ?_)
  obtain rfl : x33 = 8 := ex33.trans (by decide +kernel)
  refine va_put (D := E.1) (ci := 12) (v := .int 8) (ty := .int) (C := RX12) (T := TX12) (N := 59) hx hb hts inX12 tyX12 tyX12_ok nmX12 hown hK hP hD hS 0 rfl rfl 1 (by decide) fl152 (fun _ h9 => h9) rfl (by decide +kernel) rfl rfl (Nat.le_of_ble_eq_true rfl) dX12_feed_100 (fun H locs hP hD hS => ?_)
  have hP : va_P E.1 vwCl [(h0, .inr (12, (mO q).set 1 (.int 8))), (q 0, .inl (E.2 3, 800, .inl f32))] H := hP
  have hD : va_D A [(h0, .inr (12, (mO q).set 1 (.int 8))), (q 0, .inl (E.2 3, 800, .inl f32))] := hD
  refine lv_iinc (v := (-8)) (lv' := [(8, .int (-8)), (7, .int a2), (6, .int 1), (0, .ref h0), (1, .int a1), (2, .int a2), (3, .int a3), (4, .int a4), (5, .int a5)]) hx hb dX12_feed_103 hl (k := 0) rfl (by decide) (by decide) rfl (fun ls hl => ?_)
  refine lv_goto (tgt := 73) hx hb dX12_feed_106 (by decide) ?_
  refine lv_iload hx hb dX12_feed_73 (lv_at hl 0 rfl) ?_
  refine lv_if_lt (tgt := 109) hx hb dX12_feed_75 (by decide) (fun _ => ?_) (fun c9 => absurd c9 (by decide))
  refine lv_iinc (v := 2) (lv' := [(6, .int 2), (8, .int (-8)), (7, .int a2), (0, .ref h0), (1, .int a1), (2, .int a2), (3, .int a3), (4, .int a4), (5, .int a5)]) hx hb dX12_feed_109 hl (k := 2) rfl (by decide) (by decide) rfl (fun ls hl => ?_)
  refine lv_goto (tgt := 19) hx hb dX12_feed_112 (by decide) ?_
  refine lv_iload hx hb dX12_feed_19 (lv_at hl 0 rfl) ?_
  refine lv_iconst (v := 5) hx hb dX12_feed_21 (by decide) ?_
  refine lv_icmp_ge (tgt := 115) hx hb dX12_feed_22 (by decide) (fun c9 => absurd c9 (by decide)) (fun _ => ?_)
  refine lv_iload hx hb dX12_feed_25 (lv_at hl 0 rfl) ?_
  refine lv_if_ne (tgt := 34) hx hb dX12_feed_27 (by decide) (fun _ => ?_) (fun c9 => absurd c9 (by decide))
  refine lv_iload hx hb dX12_feed_34 (lv_at hl 0 rfl) ?_
  refine lv_iconst (v := 1) hx hb dX12_feed_36 (by decide) ?_
  refine lv_icmp_ne (tgt := 44) hx hb dX12_feed_37 (by decide) (fun _ => ?_) (fun c9 => absurd c9 (by decide))
  refine lv_iload hx hb dX12_feed_44 (lv_at hl 0 rfl) ?_
  refine lv_iconst (v := 2) hx hb dX12_feed_46 (by decide) ?_
  refine lv_icmp_ne (tgt := 54) hx hb dX12_feed_47 (by decide) (fun c9 => absurd c9 (by decide)) (fun _ => ?_)
  refine lv_iload_n hx hb dX12_feed_50 rfl (lv_at hl 6 rfl) ?_
  refine lv_goto (tgt := 67) hx hb dX12_feed_51 (by decide) ?_
  refine lv_istore (lv' := [(7, .int a3), (6, .int 2), (8, .int (-8)), (0, .ref h0), (1, .int a1), (2, .int a2), (3, .int a3), (4, .int a4), (5, .int a5)]) hx hb dX12_feed_67 hl (by decide) rfl (fun ls hl => ?_)
  refine lv_bipush (v := 24) hx hb dX12_feed_69 (by decide) ?_
  refine lv_istore (lv' := [(8, .int 24), (7, .int a3), (6, .int 2), (0, .ref h0), (1, .int a1), (2, .int a2), (3, .int a3), (4, .int a4), (5, .int a5)]) hx hb dX12_feed_71 hl (by decide) rfl (fun ls hl => ?_)
  refine lv_iload hx hb dX12_feed_73 (lv_at hl 0 rfl) ?_
  refine lv_if_lt (tgt := 109) hx hb dX12_feed_75 (by decide) (fun c9 => absurd c9 (by decide)) (fun _ => ?_)
  refine lv_aload_n hx hb dX12_feed_78 rfl (lv_at hl 3 rfl) ?_
  refine va_get (D := E.1) (ci := 12) (v := .ref (q 0)) (C := RX12) (T := TX12) (N := 59) hx hb hts inX12 hown hK hP 0 rfl rfl 0 (by decide) fl7 (fun _ h9 => h9) rfl dX12_feed_79 ?_
  refine lv_aload_n hx hb dX12_feed_82 rfl (lv_at hl 3 rfl) ?_
  refine va_get (D := E.1) (ci := 12) (v := .int 8) (C := RX12) (T := TX12) (N := 59) hx hb hts inX12 hown hK hP 0 rfl rfl 1 (by decide) fl152 (fun _ h9 => h9) rfl dX12_feed_83 ?_
  refine lv_iload hx hb dX12_feed_86 (lv_at hl 1 rfl) ?_
  refine lv_iload hx hb dX12_feed_88 (lv_at hl 0 rfl) ?_
  refine lv_ishr hx hb dX12_feed_90 ?_
  refine lv_topi (fun x34 ex34 => ?_)
  refine lv_i2b hx hb dX12_feed_91 rfl ?_
  refine lv_topi (fun x35 ex35 => ?_)
  refine va_bast hx hb hK hP hD hS 1 3 rfl rfl (show vp_in 8 800 from by unfold vp_in; decide) dX12_feed_92 (fun H locs hP hD hS => ?_)
  have hP : va_P E.1 vwCl [(h0, .inr (12, (mO q).set 1 (.int 8))), (q 0, .inl (E.2 3, 800, .inl (upd f32 (Int32.toNatClampNeg 8) (vp_nar .byte x35))))] H := hP
  have hD : va_D A [(h0, .inr (12, (mO q).set 1 (.int 8))), (q 0, .inl (E.2 3, 800, .inl (upd f32 (Int32.toNatClampNeg 8) (vp_nar .byte x35))))] := hD
  obtain ⟨f36, ef36⟩ : ∃ g : Nat → Int32, g = upd f32 (Int32.toNatClampNeg 8) (vp_nar .byte x35) := ⟨_, rfl⟩
  rw [← ef36] at hP hD
  refine lv_aload_n hx hb dX12_feed_93 rfl (lv_at hl 3 rfl) ?_
  refine lv_dup hx hb dX12_feed_94 rfl ?_
  refine va_get (D := E.1) (ci := 12) (v := .int 8) (C := RX12) (T := TX12) (N := 59) hx hb hts inX12 hown hK hP 0 rfl rfl 1 (by decide) fl152 (fun _ h9 => h9) rfl dX12_feed_95 ?_
  refine lv_iconst (v := 1) hx hb dX12_feed_98 (by decide) ?_
  refine lv_iadd hx hb dX12_feed_99 ?_
  refine lv_topi (fun x37 ex37 => ?_)
  obtain rfl : x37 = 9 := ex37.trans (by decide +kernel)
  refine va_put (D := E.1) (ci := 12) (v := .int 9) (ty := .int) (C := RX12) (T := TX12) (N := 59) hx hb hts inX12 tyX12 tyX12_ok nmX12 hown hK hP hD hS 0 rfl rfl 1 (by decide) fl152 (fun _ h9 => h9) rfl (by decide +kernel) rfl rfl (Nat.le_of_ble_eq_true rfl) dX12_feed_100 (fun H locs hP hD hS => ?_)
  have hP : va_P E.1 vwCl [(h0, .inr (12, (mO q).set 1 (.int 9))), (q 0, .inl (E.2 3, 800, .inl f36))] H := hP
  have hD : va_D A [(h0, .inr (12, (mO q).set 1 (.int 9))), (q 0, .inl (E.2 3, 800, .inl f36))] := hD
  refine lv_iinc (v := 16) (lv' := [(8, .int 16), (7, .int a3), (6, .int 2), (0, .ref h0), (1, .int a1), (2, .int a2), (3, .int a3), (4, .int a4), (5, .int a5)]) hx hb dX12_feed_103 hl (k := 0) rfl (by decide) (by decide) rfl (fun ls hl => ?_)
  refine lv_goto (tgt := 73) hx hb dX12_feed_106 (by decide) ?_
  refine lv_iload hx hb dX12_feed_73 (lv_at hl 0 rfl) ?_
  refine lv_if_lt (tgt := 109) hx hb dX12_feed_75 (by decide) (fun c9 => absurd c9 (by decide)) (fun _ => ?_)
  refine lv_aload_n hx hb dX12_feed_78 rfl (lv_at hl 3 rfl) ?_
  refine va_get (D := E.1) (ci := 12) (v := .ref (q 0)) (C := RX12) (T := TX12) (N := 59) hx hb hts inX12 hown hK hP 0 rfl rfl 0 (by decide) fl7 (fun _ h9 => h9) rfl dX12_feed_79 ?_
  refine lv_aload_n hx hb dX12_feed_82 rfl (lv_at hl 3 rfl) ?_
  refine va_get (D := E.1) (ci := 12) (v := .int 9) (C := RX12) (T := TX12) (N := 59) hx hb hts inX12 hown hK hP 0 rfl rfl 1 (by decide) fl152 (fun _ h9 => h9) rfl dX12_feed_83 ?_
  refine lv_iload hx hb dX12_feed_86 (lv_at hl 1 rfl) ?_
  refine lv_iload hx hb dX12_feed_88 (lv_at hl 0 rfl) ?_
  refine lv_ishr hx hb dX12_feed_90 ?_
  refine lv_topi (fun x38 ex38 => ?_)
  refine lv_i2b hx hb dX12_feed_91 rfl ?_
  refine lv_topi (fun x39 ex39 => ?_)
  refine va_bast hx hb hK hP hD hS 1 3 rfl rfl (show vp_in 9 800 from by unfold vp_in; decide) dX12_feed_92 (fun H locs hP hD hS => ?_)
  have hP : va_P E.1 vwCl [(h0, .inr (12, (mO q).set 1 (.int 9))), (q 0, .inl (E.2 3, 800, .inl (upd f36 (Int32.toNatClampNeg 9) (vp_nar .byte x39))))] H := hP
  have hD : va_D A [(h0, .inr (12, (mO q).set 1 (.int 9))), (q 0, .inl (E.2 3, 800, .inl (upd f36 (Int32.toNatClampNeg 9) (vp_nar .byte x39))))] := hD
  obtain ⟨f40, ef40⟩ : ∃ g : Nat → Int32, g = upd f36 (Int32.toNatClampNeg 9) (vp_nar .byte x39) := ⟨_, rfl⟩
  rw [← ef40] at hP hD
  refine lv_aload_n hx hb dX12_feed_93 rfl (lv_at hl 3 rfl) ?_
  refine lv_dup hx hb dX12_feed_94 rfl ?_
  refine va_get (D := E.1) (ci := 12) (v := .int 9) (C := RX12) (T := TX12) (N := 59) hx hb hts inX12 hown hK hP 0 rfl rfl 1 (by decide) fl152 (fun _ h9 => h9) rfl dX12_feed_95 ?_
  refine lv_iconst (v := 1) hx hb dX12_feed_98 (by decide) ?_
  refine lv_iadd hx hb dX12_feed_99 ?_
  refine lv_topi (fun x41 ex41 => ?_)
  obtain rfl : x41 = 10 := ex41.trans (by decide +kernel)
  refine va_put (D := E.1) (ci := 12) (v := .int 10) (ty := .int) (C := RX12) (T := TX12) (N := 59) hx hb hts inX12 tyX12 tyX12_ok nmX12 hown hK hP hD hS 0 rfl rfl 1 (by decide) fl152 (fun _ h9 => h9) rfl (by decide +kernel) rfl rfl (Nat.le_of_ble_eq_true rfl) dX12_feed_100 (fun H locs hP hD hS => ?_)
  have hP : va_P E.1 vwCl [(h0, .inr (12, (mO q).set 1 (.int 10))), (q 0, .inl (E.2 3, 800, .inl f40))] H := hP
  have hD : va_D A [(h0, .inr (12, (mO q).set 1 (.int 10))), (q 0, .inl (E.2 3, 800, .inl f40))] := hD
  refine lv_iinc (v := 8) (lv' := [(8, .int 8), (7, .int a3), (6, .int 2), (0, .ref h0), (1, .int a1), (2, .int a2), (3, .int a3), (4, .int a4), (5, .int a5)]) hx hb dX12_feed_103 hl (k := 0) rfl (by decide) (by decide) rfl (fun ls hl => ?_)
  refine lv_goto (tgt := 73) hx hb dX12_feed_106 (by decide) ?_
  refine lv_iload hx hb dX12_feed_73 (lv_at hl 0 rfl) ?_
  refine lv_if_lt (tgt := 109) hx hb dX12_feed_75 (by decide) (fun c9 => absurd c9 (by decide)) (fun _ => ?_)
  refine lv_aload_n hx hb dX12_feed_78 rfl (lv_at hl 3 rfl) ?_
  refine va_get (D := E.1) (ci := 12) (v := .ref (q 0)) (C := RX12) (T := TX12) (N := 59) hx hb hts inX12 hown hK hP 0 rfl rfl 0 (by decide) fl7 (fun _ h9 => h9) rfl dX12_feed_79 ?_
  refine lv_aload_n hx hb dX12_feed_82 rfl (lv_at hl 3 rfl) ?_
  refine va_get (D := E.1) (ci := 12) (v := .int 10) (C := RX12) (T := TX12) (N := 59) hx hb hts inX12 hown hK hP 0 rfl rfl 1 (by decide) fl152 (fun _ h9 => h9) rfl dX12_feed_83 ?_
  refine lv_iload hx hb dX12_feed_86 (lv_at hl 1 rfl) ?_
  refine lv_iload hx hb dX12_feed_88 (lv_at hl 0 rfl) ?_
  refine lv_ishr hx hb dX12_feed_90 ?_
  refine lv_topi (fun x42 ex42 => ?_)
  refine lv_i2b hx hb dX12_feed_91 rfl ?_
  refine lv_topi (fun x43 ex43 => ?_)
  refine va_bast hx hb hK hP hD hS 1 3 rfl rfl (show vp_in 10 800 from by unfold vp_in; decide) dX12_feed_92 (fun H locs hP hD hS => ?_)
  have hP : va_P E.1 vwCl [(h0, .inr (12, (mO q).set 1 (.int 10))), (q 0, .inl (E.2 3, 800, .inl (upd f40 (Int32.toNatClampNeg 10) (vp_nar .byte x43))))] H := hP
  have hD : va_D A [(h0, .inr (12, (mO q).set 1 (.int 10))), (q 0, .inl (E.2 3, 800, .inl (upd f40 (Int32.toNatClampNeg 10) (vp_nar .byte x43))))] := hD
  obtain ⟨f44, ef44⟩ : ∃ g : Nat → Int32, g = upd f40 (Int32.toNatClampNeg 10) (vp_nar .byte x43) := ⟨_, rfl⟩
  rw [← ef44] at hP hD
  refine lv_aload_n hx hb dX12_feed_93 rfl (lv_at hl 3 rfl) ?_
  refine lv_dup hx hb dX12_feed_94 rfl ?_
  refine va_get (D := E.1) (ci := 12) (v := .int 10) (C := RX12) (T := TX12) (N := 59) hx hb hts inX12 hown hK hP 0 rfl rfl 1 (by decide) fl152 (fun _ h9 => h9) rfl dX12_feed_95 ?_
  refine lv_iconst (v := 1) hx hb dX12_feed_98 (by decide) ?_
  refine lv_iadd hx hb dX12_feed_99 ?_
  refine lv_topi (fun x45 ex45 => ?_)
  obtain rfl : x45 = 11 := ex45.trans (by decide +kernel)
  refine va_put (D := E.1) (ci := 12) (v := .int 11) (ty := .int) (C := RX12) (T := TX12) (N := 59) hx hb hts inX12 tyX12 tyX12_ok nmX12 hown hK hP hD hS 0 rfl rfl 1 (by decide) fl152 (fun _ h9 => h9) rfl (by decide +kernel) rfl rfl (Nat.le_of_ble_eq_true rfl) dX12_feed_100 (fun H locs hP hD hS => ?_)
  have hP : va_P E.1 vwCl [(h0, .inr (12, (mO q).set 1 (.int 11))), (q 0, .inl (E.2 3, 800, .inl f44))] H := hP
  have hD : va_D A [(h0, .inr (12, (mO q).set 1 (.int 11))), (q 0, .inl (E.2 3, 800, .inl f44))] := hD
  refine lv_iinc (v := 0) (lv' := [(8, .int 0), (7, .int a3), (6, .int 2), (0, .ref h0), (1, .int a1), (2, .int a2), (3, .int a3), (4, .int a4), (5, .int a5)]) hx hb dX12_feed_103 hl (k := 0) rfl (by decide) (by decide) rfl (fun ls hl => ?_)
  refine lv_goto (tgt := 73) hx hb dX12_feed_106 (by decide) ?_
  refine lv_iload hx hb dX12_feed_73 (lv_at hl 0 rfl) ?_
  refine lv_if_lt (tgt := 109) hx hb dX12_feed_75 (by decide) (fun c9 => absurd c9 (by decide)) (fun _ => ?_)
  refine lv_aload_n hx hb dX12_feed_78 rfl (lv_at hl 3 rfl) ?_
  refine va_get (D := E.1) (ci := 12) (v := .ref (q 0)) (C := RX12) (T := TX12) (N := 59) hx hb hts inX12 hown hK hP 0 rfl rfl 0 (by decide) fl7 (fun _ h9 => h9) rfl dX12_feed_79 ?_
  refine lv_aload_n hx hb dX12_feed_82 rfl (lv_at hl 3 rfl) ?_
  refine va_get (D := E.1) (ci := 12) (v := .int 11) (C := RX12) (T := TX12) (N := 59) hx hb hts inX12 hown hK hP 0 rfl rfl 1 (by decide) fl152 (fun _ h9 => h9) rfl dX12_feed_83 ?_
  refine lv_iload hx hb dX12_feed_86 (lv_at hl 1 rfl) ?_
  refine lv_iload hx hb dX12_feed_88 (lv_at hl 0 rfl) ?_
  refine lv_ishr hx hb dX12_feed_90 ?_
  refine lv_topi (fun x46 ex46 => ?_)
  refine lv_i2b hx hb dX12_feed_91 rfl ?_
  refine lv_topi (fun x47 ex47 => ?_)
  refine va_bast hx hb hK hP hD hS 1 3 rfl rfl (show vp_in 11 800 from by unfold vp_in; decide) dX12_feed_92 (fun H locs hP hD hS => ?_)
  have hP : va_P E.1 vwCl [(h0, .inr (12, (mO q).set 1 (.int 11))), (q 0, .inl (E.2 3, 800, .inl (upd f44 (Int32.toNatClampNeg 11) (vp_nar .byte x47))))] H := hP
  have hD : va_D A [(h0, .inr (12, (mO q).set 1 (.int 11))), (q 0, .inl (E.2 3, 800, .inl (upd f44 (Int32.toNatClampNeg 11) (vp_nar .byte x47))))] := hD
  obtain ⟨f48, ef48⟩ : ∃ g : Nat → Int32, g = upd f44 (Int32.toNatClampNeg 11) (vp_nar .byte x47) := ⟨_, rfl⟩
  rw [← ef48] at hP hD
  refine lv_aload_n hx hb dX12_feed_93 rfl (lv_at hl 3 rfl) ?_
  refine lv_dup hx hb dX12_feed_94 rfl ?_
  refine va_get (D := E.1) (ci := 12) (v := .int 11) (C := RX12) (T := TX12) (N := 59) hx hb hts inX12 hown hK hP 0 rfl rfl 1 (by decide) fl152 (fun _ h9 => h9) rfl dX12_feed_95 ?_
  refine lv_iconst (v := 1) hx hb dX12_feed_98 (by decide) ?_
  refine lv_iadd hx hb dX12_feed_99 ?_
  refine lv_topi (fun x49 ex49 => ?_)
  obtain rfl : x49 = 12 := ex49.trans (by decide +kernel)
  refine va_put (D := E.1) (ci := 12) (v := .int 12) (ty := .int) (C := RX12) (T := TX12) (N := 59) hx hb hts inX12 tyX12 tyX12_ok nmX12 hown hK hP hD hS 0 rfl rfl 1 (by decide) fl152 (fun _ h9 => h9) rfl (by decide +kernel) rfl rfl (Nat.le_of_ble_eq_true rfl) dX12_feed_100 (fun H locs hP hD hS => ?_)
  have hP : va_P E.1 vwCl [(h0, .inr (12, (mO q).set 1 (.int 12))), (q 0, .inl (E.2 3, 800, .inl f48))] H := hP
  have hD : va_D A [(h0, .inr (12, (mO q).set 1 (.int 12))), (q 0, .inl (E.2 3, 800, .inl f48))] := hD
  refine lv_iinc (v := (-8)) (lv' := [(8, .int (-8)), (7, .int a3), (6, .int 2), (0, .ref h0), (1, .int a1), (2, .int a2), (3, .int a3), (4, .int a4), (5, .int a5)]) hx hb dX12_feed_103 hl (k := 0) rfl (by decide) (by decide) rfl (fun ls hl => ?_)
  refine lv_goto (tgt := 73) hx hb dX12_feed_106 (by decide) ?_
  refine lv_iload hx hb dX12_feed_73 (lv_at hl 0 rfl) ?_
  refine lv_if_lt (tgt := 109) hx hb dX12_feed_75 (by decide) (fun _ => ?_) (fun c9 => absurd c9 (by decide))
  refine lv_iinc (v := 3) (lv' := [(6, .int 3), (8, .int (-8)), (7, .int a3), (0, .ref h0), (1, .int a1), (2, .int a2), (3, .int a3), (4, .int a4), (5, .int a5)]) hx hb dX12_feed_109 hl (k := 2) rfl (by decide) (by decide) rfl (fun ls hl => ?_)
  refine lv_goto (tgt := 19) hx hb dX12_feed_112 (by decide) ?_
  refine lv_iload hx hb dX12_feed_19 (lv_at hl 0 rfl) ?_
  refine lv_iconst (v := 5) hx hb dX12_feed_21 (by decide) ?_
  refine lv_icmp_ge (tgt := 115) hx hb dX12_feed_22 (by decide) (fun c9 => absurd c9 (by decide)) (fun _ => ?_)
  refine lv_iload hx hb dX12_feed_25 (lv_at hl 0 rfl) ?_
  refine lv_if_ne (tgt := 34) hx hb dX12_feed_27 (by decide) (fun _ => ?_) (fun c9 => absurd c9 (by decide))
  refine lv_iload hx hb dX12_feed_34 (lv_at hl 0 rfl) ?_
  refine lv_iconst (v := 1) hx hb dX12_feed_36 (by decide) ?_
  refine lv_icmp_ne (tgt := 44) hx hb dX12_feed_37 (by decide) (fun _ => ?_) (fun c9 => absurd c9 (by decide))
  refine lv_iload hx hb dX12_feed_44 (lv_at hl 0 rfl) ?_
  refine lv_iconst (v := 2) hx hb dX12_feed_46 (by decide) ?_
  refine lv_icmp_ne (tgt := 54) hx hb dX12_feed_47 (by decide) (fun _ => ?_) (fun c9 => absurd c9 (by decide))
  refine lv_iload hx hb dX12_feed_54 (lv_at hl 0 rfl) ?_
  refine lv_iconst (v := 3) hx hb dX12_feed_56 (by decide) ?_
  refine lv_icmp_ne (tgt := 65) hx hb dX12_feed_57 (by decide) (fun c9 => absurd c9 (by decide)) (fun _ => ?_)
  refine lv_iload hx hb dX12_feed_60 (lv_at hl 7 rfl) ?_
  refine lv_goto (tgt := 67) hx hb dX12_feed_62 (by decide) ?_
  refine lv_istore (lv' := [(7, .int a4), (6, .int 3), (8, .int (-8)), (0, .ref h0), (1, .int a1), (2, .int a2), (3, .int a3), (4, .int a4), (5, .int a5)]) hx hb dX12_feed_67 hl (by decide) rfl (fun ls hl => ?_)
  refine lv_bipush (v := 24) hx hb dX12_feed_69 (by decide) ?_
  refine lv_istore (lv' := [(8, .int 24), (7, .int a4), (6, .int 3), (0, .ref h0), (1, .int a1), (2, .int a2), (3, .int a3), (4, .int a4), (5, .int a5)]) hx hb dX12_feed_71 hl (by decide) rfl (fun ls hl => ?_)
  refine lv_iload hx hb dX12_feed_73 (lv_at hl 0 rfl) ?_
  refine lv_if_lt (tgt := 109) hx hb dX12_feed_75 (by decide) (fun c9 => absurd c9 (by decide)) (fun _ => ?_)
  refine lv_aload_n hx hb dX12_feed_78 rfl (lv_at hl 3 rfl) ?_
  refine va_get (D := E.1) (ci := 12) (v := .ref (q 0)) (C := RX12) (T := TX12) (N := 59) hx hb hts inX12 hown hK hP 0 rfl rfl 0 (by decide) fl7 (fun _ h9 => h9) rfl dX12_feed_79 ?_
  refine lv_aload_n hx hb dX12_feed_82 rfl (lv_at hl 3 rfl) ?_
  refine va_get (D := E.1) (ci := 12) (v := .int 12) (C := RX12) (T := TX12) (N := 59) hx hb hts inX12 hown hK hP 0 rfl rfl 1 (by decide) fl152 (fun _ h9 => h9) rfl dX12_feed_83 ?_
  refine lv_iload hx hb dX12_feed_86 (lv_at hl 1 rfl) ?_
  refine lv_iload hx hb dX12_feed_88 (lv_at hl 0 rfl) ?_
  refine lv_ishr hx hb dX12_feed_90 ?_
  refine lv_topi (fun x50 ex50 => ?_)
  refine lv_i2b hx hb dX12_feed_91 rfl ?_
  refine lv_topi (fun x51 ex51 => ?_)
  refine va_bast hx hb hK hP hD hS 1 3 rfl rfl (show vp_in 12 800 from by unfold vp_in; decide) dX12_feed_92 (fun H locs hP hD hS => ?_)
  have hP : va_P E.1 vwCl [(h0, .inr (12, (mO q).set 1 (.int 12))), (q 0, .inl (E.2 3, 800, .inl (upd f48 (Int32.toNatClampNeg 12) (vp_nar .byte x51))))] H := hP
  have hD : va_D A [(h0, .inr (12, (mO q).set 1 (.int 12))), (q 0, .inl (E.2 3, 800, .inl (upd f48 (Int32.toNatClampNeg 12) (vp_nar .byte x51))))] := hD
  obtain ⟨f52, ef52⟩ : ∃ g : Nat → Int32, g = upd f48 (Int32.toNatClampNeg 12) (vp_nar .byte x51) := ⟨_, rfl⟩
  rw [← ef52] at hP hD
  refine lv_aload_n hx hb dX12_feed_93 rfl (lv_at hl 3 rfl) ?_
  refine lv_dup hx hb dX12_feed_94 rfl ?_
  refine va_get (D := E.1) (ci := 12) (v := .int 12) (C := RX12) (T := TX12) (N := 59) hx hb hts inX12 hown hK hP 0 rfl rfl 1 (by decide) fl152 (fun _ h9 => h9) rfl dX12_feed_95 ?_
  refine lv_iconst (v := 1) hx hb dX12_feed_98 (by decide) ?_
  refine lv_iadd hx hb dX12_feed_99 ?_
  refine lv_topi (fun x53 ex53 => ?_)
  obtain rfl : x53 = 13 := ex53.trans (by decide +kernel)
  refine va_put (D := E.1) (ci := 12) (v := .int 13) (ty := .int) (C := RX12) (T := TX12) (N := 59) hx hb hts inX12 tyX12 tyX12_ok nmX12 hown hK hP hD hS 0 rfl rfl 1 (by decide) fl152 (fun _ h9 => h9) rfl (by decide +kernel) rfl rfl (Nat.le_of_ble_eq_true rfl) dX12_feed_100 (fun H locs hP hD hS => ?_)
  have hP : va_P E.1 vwCl [(h0, .inr (12, (mO q).set 1 (.int 13))), (q 0, .inl (E.2 3, 800, .inl f52))] H := hP
  have hD : va_D A [(h0, .inr (12, (mO q).set 1 (.int 13))), (q 0, .inl (E.2 3, 800, .inl f52))] := hD
  refine lv_iinc (v := 16) (lv' := [(8, .int 16), (7, .int a4), (6, .int 3), (0, .ref h0), (1, .int a1), (2, .int a2), (3, .int a3), (4, .int a4), (5, .int a5)]) hx hb dX12_feed_103 hl (k := 0) rfl (by decide) (by decide) rfl (fun ls hl => ?_)
  refine lv_goto (tgt := 73) hx hb dX12_feed_106 (by decide) ?_
  refine lv_iload hx hb dX12_feed_73 (lv_at hl 0 rfl) ?_
  refine lv_if_lt (tgt := 109) hx hb dX12_feed_75 (by decide) (fun c9 => absurd c9 (by decide)) (fun _ => ?_)
  refine lv_aload_n hx hb dX12_feed_78 rfl (lv_at hl 3 rfl) ?_
  refine va_get (D := E.1) (ci := 12) (v := .ref (q 0)) (C := RX12) (T := TX12) (N := 59) hx hb hts inX12 hown hK hP 0 rfl rfl 0 (by decide) fl7 (fun _ h9 => h9) rfl dX12_feed_79 ?_
  refine lv_aload_n hx hb dX12_feed_82 rfl (lv_at hl 3 rfl) ?_
  refine va_get (D := E.1) (ci := 12) (v := .int 13) (C := RX12) (T := TX12) (N := 59) hx hb hts inX12 hown hK hP 0 rfl rfl 1 (by decide) fl152 (fun _ h9 => h9) rfl dX12_feed_83 ?_
  refine lv_iload hx hb dX12_feed_86 (lv_at hl 1 rfl) ?_
  refine lv_iload hx hb dX12_feed_88 (lv_at hl 0 rfl) ?_
  refine lv_ishr hx hb dX12_feed_90 ?_
  refine lv_topi (fun x54 ex54 => ?_)
  refine lv_i2b hx hb dX12_feed_91 rfl ?_
  refine lv_topi (fun x55 ex55 => ?_)
  refine va_bast hx hb hK hP hD hS 1 3 rfl rfl (show vp_in 13 800 from by unfold vp_in; decide) dX12_feed_92 (fun H locs hP hD hS => ?_)
  have hP : va_P E.1 vwCl [(h0, .inr (12, (mO q).set 1 (.int 13))), (q 0, .inl (E.2 3, 800, .inl (upd f52 (Int32.toNatClampNeg 13) (vp_nar .byte x55))))] H := hP
  have hD : va_D A [(h0, .inr (12, (mO q).set 1 (.int 13))), (q 0, .inl (E.2 3, 800, .inl (upd f52 (Int32.toNatClampNeg 13) (vp_nar .byte x55))))] := hD
  obtain ⟨f56, ef56⟩ : ∃ g : Nat → Int32, g = upd f52 (Int32.toNatClampNeg 13) (vp_nar .byte x55) := ⟨_, rfl⟩
  rw [← ef56] at hP hD
  refine lv_aload_n hx hb dX12_feed_93 rfl (lv_at hl 3 rfl) ?_
  refine lv_dup hx hb dX12_feed_94 rfl ?_
  refine va_get (D := E.1) (ci := 12) (v := .int 13) (C := RX12) (T := TX12) (N := 59) hx hb hts inX12 hown hK hP 0 rfl rfl 1 (by decide) fl152 (fun _ h9 => h9) rfl dX12_feed_95 ?_
  refine lv_iconst (v := 1) hx hb dX12_feed_98 (by decide) ?_
  refine lv_iadd hx hb dX12_feed_99 ?_
  refine lv_topi (fun x57 ex57 => ?_)
  obtain rfl : x57 = 14 := ex57.trans (by decide +kernel)
  refine va_put (D := E.1) (ci := 12) (v := .int 14) (ty := .int) (C := RX12) (T := TX12) (N := 59) hx hb hts inX12 tyX12 tyX12_ok nmX12 hown hK hP hD hS 0 rfl rfl 1 (by decide) fl152 (fun _ h9 => h9) rfl (by decide +kernel) rfl rfl (Nat.le_of_ble_eq_true rfl) dX12_feed_100 (fun H locs hP hD hS => ?_)
  have hP : va_P E.1 vwCl [(h0, .inr (12, (mO q).set 1 (.int 14))), (q 0, .inl (E.2 3, 800, .inl f56))] H := hP
  have hD : va_D A [(h0, .inr (12, (mO q).set 1 (.int 14))), (q 0, .inl (E.2 3, 800, .inl f56))] := hD
  refine lv_iinc (v := 8) (lv' := [(8, .int 8), (7, .int a4), (6, .int 3), (0, .ref h0), (1, .int a1), (2, .int a2), (3, .int a3), (4, .int a4), (5, .int a5)]) hx hb dX12_feed_103 hl (k := 0) rfl (by decide) (by decide) rfl (fun ls hl => ?_)
  refine lv_goto (tgt := 73) hx hb dX12_feed_106 (by decide) ?_
  refine lv_iload hx hb dX12_feed_73 (lv_at hl 0 rfl) ?_
  refine lv_if_lt (tgt := 109) hx hb dX12_feed_75 (by decide) (fun c9 => absurd c9 (by decide)) (fun _ => ?_)
  refine lv_aload_n hx hb dX12_feed_78 rfl (lv_at hl 3 rfl) ?_
  refine va_get (D := E.1) (ci := 12) (v := .ref (q 0)) (C := RX12) (T := TX12) (N := 59) hx hb hts inX12 hown hK hP 0 rfl rfl 0 (by decide) fl7 (fun _ h9 => h9) rfl dX12_feed_79 ?_
  refine lv_aload_n hx hb dX12_feed_82 rfl (lv_at hl 3 rfl) ?_
  refine va_get (D := E.1) (ci := 12) (v := .int 14) (C := RX12) (T := TX12) (N := 59) hx hb hts inX12 hown hK hP 0 rfl rfl 1 (by decide) fl152 (fun _ h9 => h9) rfl dX12_feed_83 ?_
  refine lv_iload hx hb dX12_feed_86 (lv_at hl 1 rfl) ?_
  refine lv_iload hx hb dX12_feed_88 (lv_at hl 0 rfl) ?_
  refine lv_ishr hx hb dX12_feed_90 ?_
  refine lv_topi (fun x58 ex58 => ?_)
  refine lv_i2b hx hb dX12_feed_91 rfl ?_
  refine lv_topi (fun x59 ex59 => ?_)
  refine va_bast hx hb hK hP hD hS 1 3 rfl rfl (show vp_in 14 800 from by unfold vp_in; decide) dX12_feed_92 (fun H locs hP hD hS => ?_)
  have hP : va_P E.1 vwCl [(h0, .inr (12, (mO q).set 1 (.int 14))), (q 0, .inl (E.2 3, 800, .inl (upd f56 (Int32.toNatClampNeg 14) (vp_nar .byte x59))))] H := hP
  have hD : va_D A [(h0, .inr (12, (mO q).set 1 (.int 14))), (q 0, .inl (E.2 3, 800, .inl (upd f56 (Int32.toNatClampNeg 14) (vp_nar .byte x59))))] := hD
  obtain ⟨f60, ef60⟩ : ∃ g : Nat → Int32, g = upd f56 (Int32.toNatClampNeg 14) (vp_nar .byte x59) := ⟨_, rfl⟩
  rw [← ef60] at hP hD
  refine lv_aload_n hx hb dX12_feed_93 rfl (lv_at hl 3 rfl) ?_
  refine lv_dup hx hb dX12_feed_94 rfl ?_
  refine va_get (D := E.1) (ci := 12) (v := .int 14) (C := RX12) (T := TX12) (N := 59) hx hb hts inX12 hown hK hP 0 rfl rfl 1 (by decide) fl152 (fun _ h9 => h9) rfl dX12_feed_95 ?_
  refine lv_iconst (v := 1) hx hb dX12_feed_98 (by decide) ?_
  refine lv_iadd hx hb dX12_feed_99 ?_
  refine lv_topi (fun x61 ex61 => ?_)
  obtain rfl : x61 = 15 := ex61.trans (by decide +kernel)
  refine va_put (D := E.1) (ci := 12) (v := .int 15) (ty := .int) (C := RX12) (T := TX12) (N := 59) hx hb hts inX12 tyX12 tyX12_ok nmX12 hown hK hP hD hS 0 rfl rfl 1 (by decide) fl152 (fun _ h9 => h9) rfl (by decide +kernel) rfl rfl (Nat.le_of_ble_eq_true rfl) dX12_feed_100 (fun H locs hP hD hS => ?_)
  have hP : va_P E.1 vwCl [(h0, .inr (12, (mO q).set 1 (.int 15))), (q 0, .inl (E.2 3, 800, .inl f60))] H := hP
  have hD : va_D A [(h0, .inr (12, (mO q).set 1 (.int 15))), (q 0, .inl (E.2 3, 800, .inl f60))] := hD
  refine lv_iinc (v := 0) (lv' := [(8, .int 0), (7, .int a4), (6, .int 3), (0, .ref h0), (1, .int a1), (2, .int a2), (3, .int a3), (4, .int a4), (5, .int a5)]) hx hb dX12_feed_103 hl (k := 0) rfl (by decide) (by decide) rfl (fun ls hl => ?_)
  refine lv_goto (tgt := 73) hx hb dX12_feed_106 (by decide) ?_
  refine lv_iload hx hb dX12_feed_73 (lv_at hl 0 rfl) ?_
  refine lv_if_lt (tgt := 109) hx hb dX12_feed_75 (by decide) (fun c9 => absurd c9 (by decide)) (fun _ => ?_)
  refine lv_aload_n hx hb dX12_feed_78 rfl (lv_at hl 3 rfl) ?_
  refine va_get (D := E.1) (ci := 12) (v := .ref (q 0)) (C := RX12) (T := TX12) (N := 59) hx hb hts inX12 hown hK hP 0 rfl rfl 0 (by decide) fl7 (fun _ h9 => h9) rfl dX12_feed_79 ?_
  refine lv_aload_n hx hb dX12_feed_82 rfl (lv_at hl 3 rfl) ?_
  refine va_get (D := E.1) (ci := 12) (v := .int 15) (C := RX12) (T := TX12) (N := 59) hx hb hts inX12 hown hK hP 0 rfl rfl 1 (by decide) fl152 (fun _ h9 => h9) rfl dX12_feed_83 ?_
  refine lv_iload hx hb dX12_feed_86 (lv_at hl 1 rfl) ?_
  refine lv_iload hx hb dX12_feed_88 (lv_at hl 0 rfl) ?_
  refine lv_ishr hx hb dX12_feed_90 ?_
  refine lv_topi (fun x62 ex62 => ?_)
  refine lv_i2b hx hb dX12_feed_91 rfl ?_
  refine lv_topi (fun x63 ex63 => ?_)
  refine va_bast hx hb hK hP hD hS 1 3 rfl rfl (show vp_in 15 800 from by unfold vp_in; decide) dX12_feed_92 (fun H locs hP hD hS => ?_)
  have hP : va_P E.1 vwCl [(h0, .inr (12, (mO q).set 1 (.int 15))), (q 0, .inl (E.2 3, 800, .inl (upd f60 (Int32.toNatClampNeg 15) (vp_nar .byte x63))))] H := hP
  have hD : va_D A [(h0, .inr (12, (mO q).set 1 (.int 15))), (q 0, .inl (E.2 3, 800, .inl (upd f60 (Int32.toNatClampNeg 15) (vp_nar .byte x63))))] := hD
  obtain ⟨f64, ef64⟩ : ∃ g : Nat → Int32, g = upd f60 (Int32.toNatClampNeg 15) (vp_nar .byte x63) := ⟨_, rfl⟩
  rw [← ef64] at hP hD
  refine lv_aload_n hx hb dX12_feed_93 rfl (lv_at hl 3 rfl) ?_
  refine lv_dup hx hb dX12_feed_94 rfl ?_
  refine va_get (D := E.1) (ci := 12) (v := .int 15) (C := RX12) (T := TX12) (N := 59) hx hb hts inX12 hown hK hP 0 rfl rfl 1 (by decide) fl152 (fun _ h9 => h9) rfl dX12_feed_95 ?_
  refine lv_iconst (v := 1) hx hb dX12_feed_98 (by decide) ?_
  refine lv_iadd hx hb dX12_feed_99 ?_
  refine lv_topi (fun x65 ex65 => ?_)
  obtain rfl : x65 = 16 := ex65.trans (by decide +kernel)
  refine va_put (D := E.1) (ci := 12) (v := .int 16) (ty := .int) (C := RX12) (T := TX12) (N := 59) hx hb hts inX12 tyX12 tyX12_ok nmX12 hown hK hP hD hS 0 rfl rfl 1 (by decide) fl152 (fun _ h9 => h9) rfl (by decide +kernel) rfl rfl (Nat.le_of_ble_eq_true rfl) dX12_feed_100 (fun H locs hP hD hS => ?_)
  have hP : va_P E.1 vwCl [(h0, .inr (12, (mO q).set 1 (.int 16))), (q 0, .inl (E.2 3, 800, .inl f64))] H := hP
  have hD : va_D A [(h0, .inr (12, (mO q).set 1 (.int 16))), (q 0, .inl (E.2 3, 800, .inl f64))] := hD
  refine lv_iinc (v := (-8)) (lv' := [(8, .int (-8)), (7, .int a4), (6, .int 3), (0, .ref h0), (1, .int a1), (2, .int a2), (3, .int a3), (4, .int a4), (5, .int a5)]) hx hb dX12_feed_103 hl (k := 0) rfl (by decide) (by decide) rfl (fun ls hl => ?_)
  refine lv_goto (tgt := 73) hx hb dX12_feed_106 (by decide) ?_
  refine lv_iload hx hb dX12_feed_73 (lv_at hl 0 rfl) ?_
  refine lv_if_lt (tgt := 109) hx hb dX12_feed_75 (by decide) (fun _ => ?_) (fun c9 => absurd c9 (by decide))
  refine lv_iinc (v := 4) (lv' := [(6, .int 4), (8, .int (-8)), (7, .int a4), (0, .ref h0), (1, .int a1), (2, .int a2), (3, .int a3), (4, .int a4), (5, .int a5)]) hx hb dX12_feed_109 hl (k := 2) rfl (by decide) (by decide) rfl (fun ls hl => ?_)
  refine lv_goto (tgt := 19) hx hb dX12_feed_112 (by decide) ?_
  refine lv_iload hx hb dX12_feed_19 (lv_at hl 0 rfl) ?_
  refine lv_iconst (v := 5) hx hb dX12_feed_21 (by decide) ?_
  refine lv_icmp_ge (tgt := 115) hx hb dX12_feed_22 (by decide) (fun c9 => absurd c9 (by decide)) (fun _ => ?_)
  refine lv_iload hx hb dX12_feed_25 (lv_at hl 0 rfl) ?_
  refine lv_if_ne (tgt := 34) hx hb dX12_feed_27 (by decide) (fun _ => ?_) (fun c9 => absurd c9 (by decide))
  refine lv_iload hx hb dX12_feed_34 (lv_at hl 0 rfl) ?_
  refine lv_iconst (v := 1) hx hb dX12_feed_36 (by decide) ?_
  refine lv_icmp_ne (tgt := 44) hx hb dX12_feed_37 (by decide) (fun _ => ?_) (fun c9 => absurd c9 (by decide))
  refine lv_iload hx hb dX12_feed_44 (lv_at hl 0 rfl) ?_
  refine lv_iconst (v := 2) hx hb dX12_feed_46 (by decide) ?_
  refine lv_icmp_ne (tgt := 54) hx hb dX12_feed_47 (by decide) (fun _ => ?_) (fun c9 => absurd c9 (by decide))
  refine lv_iload hx hb dX12_feed_54 (lv_at hl 0 rfl) ?_
  refine lv_iconst (v := 3) hx hb dX12_feed_56 (by decide) ?_
  refine lv_icmp_ne (tgt := 65) hx hb dX12_feed_57 (by decide) (fun _ => ?_) (fun c9 => absurd c9 (by decide))
  refine lv_iload hx hb dX12_feed_65 (lv_at hl 8 rfl) ?_
  refine lv_istore (lv' := [(7, .int a5), (6, .int 4), (8, .int (-8)), (0, .ref h0), (1, .int a1), (2, .int a2), (3, .int a3), (4, .int a4), (5, .int a5)]) hx hb dX12_feed_67 hl (by decide) rfl (fun ls hl => ?_)
  refine lv_bipush (v := 24) hx hb dX12_feed_69 (by decide) ?_
  refine lv_istore (lv' := [(8, .int 24), (7, .int a5), (6, .int 4), (0, .ref h0), (1, .int a1), (2, .int a2), (3, .int a3), (4, .int a4), (5, .int a5)]) hx hb dX12_feed_71 hl (by decide) rfl (fun ls hl => ?_)
  refine lv_iload hx hb dX12_feed_73 (lv_at hl 0 rfl) ?_
  refine lv_if_lt (tgt := 109) hx hb dX12_feed_75 (by decide) (fun c9 => absurd c9 (by decide)) (fun _ => ?_)
  refine lv_aload_n hx hb dX12_feed_78 rfl (lv_at hl 3 rfl) ?_
  refine va_get (D := E.1) (ci := 12) (v := .ref (q 0)) (C := RX12) (T := TX12) (N := 59) hx hb hts inX12 hown hK hP 0 rfl rfl 0 (by decide) fl7 (fun _ h9 => h9) rfl dX12_feed_79 ?_
  refine lv_aload_n hx hb dX12_feed_82 rfl (lv_at hl 3 rfl) ?_
  refine va_get (D := E.1) (ci := 12) (v := .int 16) (C := RX12) (T := TX12) (N := 59) hx hb hts inX12 hown hK hP 0 rfl rfl 1 (by decide) fl152 (fun _ h9 => h9) rfl dX12_feed_83 ?_
  refine lv_iload hx hb dX12_feed_86 (lv_at hl 1 rfl) ?_
  refine lv_iload hx hb dX12_feed_88 (lv_at hl 0 rfl) ?_
  refine lv_ishr hx hb dX12_feed_90 ?_
  refine lv_topi (fun x66 ex66 => ?_)
  refine lv_i2b hx hb dX12_feed_91 rfl ?_
  refine lv_topi (fun x67 ex67 => ?_)
  refine va_bast hx hb hK hP hD hS 1 3 rfl rfl (show vp_in 16 800 from by unfold vp_in; decide) dX12_feed_92 (fun H locs hP hD hS => ?_)
  have hP : va_P E.1 vwCl [(h0, .inr (12, (mO q).set 1 (.int 16))), (q 0, .inl (E.2 3, 800, .inl (upd f64 (Int32.toNatClampNeg 16) (vp_nar .byte x67))))] H := hP
  have hD : va_D A [(h0, .inr (12, (mO q).set 1 (.int 16))), (q 0, .inl (E.2 3, 800, .inl (upd f64 (Int32.toNatClampNeg 16) (vp_nar .byte x67))))] := hD
  obtain ⟨f68, ef68⟩ : ∃ g : Nat → Int32, g = upd f64 (Int32.toNatClampNeg 16) (vp_nar .byte x67) := ⟨_, rfl⟩
  rw [← ef68] at hP hD
  refine lv_aload_n hx hb dX12_feed_93 rfl (lv_at hl 3 rfl) ?_
  refine lv_dup hx hb dX12_feed_94 rfl ?_
  refine va_get (D := E.1) (ci := 12) (v := .int 16) (C := RX12) (T := TX12) (N := 59) hx hb hts inX12 hown hK hP 0 rfl rfl 1 (by decide) fl152 (fun _ h9 => h9) rfl dX12_feed_95 ?_
  refine lv_iconst (v := 1) hx hb dX12_feed_98 (by decide) ?_
  refine lv_iadd hx hb dX12_feed_99 ?_
  refine lv_topi (fun x69 ex69 => ?_)
  obtain rfl : x69 = 17 := ex69.trans (by decide +kernel)
  refine va_put (D := E.1) (ci := 12) (v := .int 17) (ty := .int) (C := RX12) (T := TX12) (N := 59) hx hb hts inX12 tyX12 tyX12_ok nmX12 hown hK hP hD hS 0 rfl rfl 1 (by decide) fl152 (fun _ h9 => h9) rfl (by decide +kernel) rfl rfl (Nat.le_of_ble_eq_true rfl) dX12_feed_100 (fun H locs hP hD hS => ?_)
  have hP : va_P E.1 vwCl [(h0, .inr (12, (mO q).set 1 (.int 17))), (q 0, .inl (E.2 3, 800, .inl f68))] H := hP
  have hD : va_D A [(h0, .inr (12, (mO q).set 1 (.int 17))), (q 0, .inl (E.2 3, 800, .inl f68))] := hD
  refine lv_iinc (v := 16) (lv' := [(8, .int 16), (7, .int a5), (6, .int 4), (0, .ref h0), (1, .int a1), (2, .int a2), (3, .int a3), (4, .int a4), (5, .int a5)]) hx hb dX12_feed_103 hl (k := 0) rfl (by decide) (by decide) rfl (fun ls hl => ?_)
  refine lv_goto (tgt := 73) hx hb dX12_feed_106 (by decide) ?_
  refine lv_iload hx hb dX12_feed_73 (lv_at hl 0 rfl) ?_
  refine lv_if_lt (tgt := 109) hx hb dX12_feed_75 (by decide) (fun c9 => absurd c9 (by decide)) (fun _ => ?_)
  refine lv_aload_n hx hb dX12_feed_78 rfl (lv_at hl 3 rfl) ?_
  refine va_get (D := E.1) (ci := 12) (v := .ref (q 0)) (C := RX12) (T := TX12) (N := 59) hx hb hts inX12 hown hK hP 0 rfl rfl 0 (by decide) fl7 (fun _ h9 => h9) rfl dX12_feed_79 ?_
  refine lv_aload_n hx hb dX12_feed_82 rfl (lv_at hl 3 rfl) ?_
  refine va_get (D := E.1) (ci := 12) (v := .int 17) (C := RX12) (T := TX12) (N := 59) hx hb hts inX12 hown hK hP 0 rfl rfl 1 (by decide) fl152 (fun _ h9 => h9) rfl dX12_feed_83 ?_
  refine lv_iload hx hb dX12_feed_86 (lv_at hl 1 rfl) ?_
  refine lv_iload hx hb dX12_feed_88 (lv_at hl 0 rfl) ?_
  refine lv_ishr hx hb dX12_feed_90 ?_
  refine lv_topi (fun x70 ex70 => ?_)
  refine lv_i2b hx hb dX12_feed_91 rfl ?_
  refine lv_topi (fun x71 ex71 => ?_)
  refine va_bast hx hb hK hP hD hS 1 3 rfl rfl (show vp_in 17 800 from by unfold vp_in; decide) dX12_feed_92 (fun H locs hP hD hS => ?_)
  have hP : va_P E.1 vwCl [(h0, .inr (12, (mO q).set 1 (.int 17))), (q 0, .inl (E.2 3, 800, .inl (upd f68 (Int32.toNatClampNeg 17) (vp_nar .byte x71))))] H := hP
  have hD : va_D A [(h0, .inr (12, (mO q).set 1 (.int 17))), (q 0, .inl (E.2 3, 800, .inl (upd f68 (Int32.toNatClampNeg 17) (vp_nar .byte x71))))] := hD
  obtain ⟨f72, ef72⟩ : ∃ g : Nat → Int32, g = upd f68 (Int32.toNatClampNeg 17) (vp_nar .byte x71) := ⟨_, rfl⟩
  rw [← ef72] at hP hD
  refine lv_aload_n hx hb dX12_feed_93 rfl (lv_at hl 3 rfl) ?_
  refine lv_dup hx hb dX12_feed_94 rfl ?_
  refine va_get (D := E.1) (ci := 12) (v := .int 17) (C := RX12) (T := TX12) (N := 59) hx hb hts inX12 hown hK hP 0 rfl rfl 1 (by decide) fl152 (fun _ h9 => h9) rfl dX12_feed_95 ?_
  refine lv_iconst (v := 1) hx hb dX12_feed_98 (by decide) ?_
  refine lv_iadd hx hb dX12_feed_99 ?_
  refine lv_topi (fun x73 ex73 => ?_)
  obtain rfl : x73 = 18 := ex73.trans (by decide +kernel)
  refine va_put (D := E.1) (ci := 12) (v := .int 18) (ty := .int) (C := RX12) (T := TX12) (N := 59) hx hb hts inX12 tyX12 tyX12_ok nmX12 hown hK hP hD hS 0 rfl rfl 1 (by decide) fl152 (fun _ h9 => h9) rfl (by decide +kernel) rfl rfl (Nat.le_of_ble_eq_true rfl) dX12_feed_100 (fun H locs hP hD hS => ?_)
  have hP : va_P E.1 vwCl [(h0, .inr (12, (mO q).set 1 (.int 18))), (q 0, .inl (E.2 3, 800, .inl f72))] H := hP
  have hD : va_D A [(h0, .inr (12, (mO q).set 1 (.int 18))), (q 0, .inl (E.2 3, 800, .inl f72))] := hD
  refine lv_iinc (v := 8) (lv' := [(8, .int 8), (7, .int a5), (6, .int 4), (0, .ref h0), (1, .int a1), (2, .int a2), (3, .int a3), (4, .int a4), (5, .int a5)]) hx hb dX12_feed_103 hl (k := 0) rfl (by decide) (by decide) rfl (fun ls hl => ?_)
  refine lv_goto (tgt := 73) hx hb dX12_feed_106 (by decide) ?_
  refine lv_iload hx hb dX12_feed_73 (lv_at hl 0 rfl) ?_
  refine lv_if_lt (tgt := 109) hx hb dX12_feed_75 (by decide) (fun c9 => absurd c9 (by decide)) (fun _ => ?_)
  refine lv_aload_n hx hb dX12_feed_78 rfl (lv_at hl 3 rfl) ?_
  refine va_get (D := E.1) (ci := 12) (v := .ref (q 0)) (C := RX12) (T := TX12) (N := 59) hx hb hts inX12 hown hK hP 0 rfl rfl 0 (by decide) fl7 (fun _ h9 => h9) rfl dX12_feed_79 ?_
  refine lv_aload_n hx hb dX12_feed_82 rfl (lv_at hl 3 rfl) ?_
  refine va_get (D := E.1) (ci := 12) (v := .int 18) (C := RX12) (T := TX12) (N := 59) hx hb hts inX12 hown hK hP 0 rfl rfl 1 (by decide) fl152 (fun _ h9 => h9) rfl dX12_feed_83 ?_
  refine lv_iload hx hb dX12_feed_86 (lv_at hl 1 rfl) ?_
  refine lv_iload hx hb dX12_feed_88 (lv_at hl 0 rfl) ?_
  refine lv_ishr hx hb dX12_feed_90 ?_
  refine lv_topi (fun x74 ex74 => ?_)
  refine lv_i2b hx hb dX12_feed_91 rfl ?_
  refine lv_topi (fun x75 ex75 => ?_)
  refine va_bast hx hb hK hP hD hS 1 3 rfl rfl (show vp_in 18 800 from by unfold vp_in; decide) dX12_feed_92 (fun H locs hP hD hS => ?_)
  have hP : va_P E.1 vwCl [(h0, .inr (12, (mO q).set 1 (.int 18))), (q 0, .inl (E.2 3, 800, .inl (upd f72 (Int32.toNatClampNeg 18) (vp_nar .byte x75))))] H := hP
  have hD : va_D A [(h0, .inr (12, (mO q).set 1 (.int 18))), (q 0, .inl (E.2 3, 800, .inl (upd f72 (Int32.toNatClampNeg 18) (vp_nar .byte x75))))] := hD
  obtain ⟨f76, ef76⟩ : ∃ g : Nat → Int32, g = upd f72 (Int32.toNatClampNeg 18) (vp_nar .byte x75) := ⟨_, rfl⟩
  rw [← ef76] at hP hD
  refine lv_aload_n hx hb dX12_feed_93 rfl (lv_at hl 3 rfl) ?_
  refine lv_dup hx hb dX12_feed_94 rfl ?_
  refine va_get (D := E.1) (ci := 12) (v := .int 18) (C := RX12) (T := TX12) (N := 59) hx hb hts inX12 hown hK hP 0 rfl rfl 1 (by decide) fl152 (fun _ h9 => h9) rfl dX12_feed_95 ?_
  refine lv_iconst (v := 1) hx hb dX12_feed_98 (by decide) ?_
  refine lv_iadd hx hb dX12_feed_99 ?_
  refine lv_topi (fun x77 ex77 => ?_)
  obtain rfl : x77 = 19 := ex77.trans (by decide +kernel)
  refine va_put (D := E.1) (ci := 12) (v := .int 19) (ty := .int) (C := RX12) (T := TX12) (N := 59) hx hb hts inX12 tyX12 tyX12_ok nmX12 hown hK hP hD hS 0 rfl rfl 1 (by decide) fl152 (fun _ h9 => h9) rfl (by decide +kernel) rfl rfl (Nat.le_of_ble_eq_true rfl) dX12_feed_100 (fun H locs hP hD hS => ?_)
  have hP : va_P E.1 vwCl [(h0, .inr (12, (mO q).set 1 (.int 19))), (q 0, .inl (E.2 3, 800, .inl f76))] H := hP
  have hD : va_D A [(h0, .inr (12, (mO q).set 1 (.int 19))), (q 0, .inl (E.2 3, 800, .inl f76))] := hD
  refine lv_iinc (v := 0) (lv' := [(8, .int 0), (7, .int a5), (6, .int 4), (0, .ref h0), (1, .int a1), (2, .int a2), (3, .int a3), (4, .int a4), (5, .int a5)]) hx hb dX12_feed_103 hl (k := 0) rfl (by decide) (by decide) rfl (fun ls hl => ?_)
  refine lv_goto (tgt := 73) hx hb dX12_feed_106 (by decide) ?_
  refine lv_iload hx hb dX12_feed_73 (lv_at hl 0 rfl) ?_
  refine lv_if_lt (tgt := 109) hx hb dX12_feed_75 (by decide) (fun c9 => absurd c9 (by decide)) (fun _ => ?_)
  refine lv_aload_n hx hb dX12_feed_78 rfl (lv_at hl 3 rfl) ?_
  refine va_get (D := E.1) (ci := 12) (v := .ref (q 0)) (C := RX12) (T := TX12) (N := 59) hx hb hts inX12 hown hK hP 0 rfl rfl 0 (by decide) fl7 (fun _ h9 => h9) rfl dX12_feed_79 ?_
  refine lv_aload_n hx hb dX12_feed_82 rfl (lv_at hl 3 rfl) ?_
  refine va_get (D := E.1) (ci := 12) (v := .int 19) (C := RX12) (T := TX12) (N := 59) hx hb hts inX12 hown hK hP 0 rfl rfl 1 (by decide) fl152 (fun _ h9 => h9) rfl dX12_feed_83 ?_
  refine lv_iload hx hb dX12_feed_86 (lv_at hl 1 rfl) ?_
  refine lv_iload hx hb dX12_feed_88 (lv_at hl 0 rfl) ?_
  refine lv_ishr hx hb dX12_feed_90 ?_
  refine lv_topi (fun x78 ex78 => ?_)
  refine lv_i2b hx hb dX12_feed_91 rfl ?_
  refine lv_topi (fun x79 ex79 => ?_)
  refine va_bast hx hb hK hP hD hS 1 3 rfl rfl (show vp_in 19 800 from by unfold vp_in; decide) dX12_feed_92 (fun H locs hP hD hS => ?_)
  have hP : va_P E.1 vwCl [(h0, .inr (12, (mO q).set 1 (.int 19))), (q 0, .inl (E.2 3, 800, .inl (upd f76 (Int32.toNatClampNeg 19) (vp_nar .byte x79))))] H := hP
  have hD : va_D A [(h0, .inr (12, (mO q).set 1 (.int 19))), (q 0, .inl (E.2 3, 800, .inl (upd f76 (Int32.toNatClampNeg 19) (vp_nar .byte x79))))] := hD
  obtain ⟨f80, ef80⟩ : ∃ g : Nat → Int32, g = upd f76 (Int32.toNatClampNeg 19) (vp_nar .byte x79) := ⟨_, rfl⟩
  rw [← ef80] at hP hD
  refine lv_aload_n hx hb dX12_feed_93 rfl (lv_at hl 3 rfl) ?_
  refine lv_dup hx hb dX12_feed_94 rfl ?_
  refine va_get (D := E.1) (ci := 12) (v := .int 19) (C := RX12) (T := TX12) (N := 59) hx hb hts inX12 hown hK hP 0 rfl rfl 1 (by decide) fl152 (fun _ h9 => h9) rfl dX12_feed_95 ?_
  refine lv_iconst (v := 1) hx hb dX12_feed_98 (by decide) ?_
  refine lv_iadd hx hb dX12_feed_99 ?_
  refine lv_topi (fun x81 ex81 => ?_)
  obtain rfl : x81 = 20 := ex81.trans (by decide +kernel)
  refine va_put (D := E.1) (ci := 12) (v := .int 20) (ty := .int) (C := RX12) (T := TX12) (N := 59) hx hb hts inX12 tyX12 tyX12_ok nmX12 hown hK hP hD hS 0 rfl rfl 1 (by decide) fl152 (fun _ h9 => h9) rfl (by decide +kernel) rfl rfl (Nat.le_of_ble_eq_true rfl) dX12_feed_100 (fun H locs hP hD hS => ?_)
  have hP : va_P E.1 vwCl [(h0, .inr (12, (mO q).set 1 (.int 20))), (q 0, .inl (E.2 3, 800, .inl f80))] H := hP
  have hD : va_D A [(h0, .inr (12, (mO q).set 1 (.int 20))), (q 0, .inl (E.2 3, 800, .inl f80))] := hD
  refine lv_iinc (v := (-8)) (lv' := [(8, .int (-8)), (7, .int a5), (6, .int 4), (0, .ref h0), (1, .int a1), (2, .int a2), (3, .int a3), (4, .int a4), (5, .int a5)]) hx hb dX12_feed_103 hl (k := 0) rfl (by decide) (by decide) rfl (fun ls hl => ?_)
  refine lv_goto (tgt := 73) hx hb dX12_feed_106 (by decide) ?_
  refine lv_iload hx hb dX12_feed_73 (lv_at hl 0 rfl) ?_
  refine lv_if_lt (tgt := 109) hx hb dX12_feed_75 (by decide) (fun _ => ?_) (fun c9 => absurd c9 (by decide))
  refine lv_iinc (v := 5) (lv' := [(6, .int 5), (8, .int (-8)), (7, .int a5), (0, .ref h0), (1, .int a1), (2, .int a2), (3, .int a3), (4, .int a4), (5, .int a5)]) hx hb dX12_feed_109 hl (k := 2) rfl (by decide) (by decide) rfl (fun ls hl => ?_)
  refine lv_goto (tgt := 19) hx hb dX12_feed_112 (by decide) ?_
  refine lv_iload hx hb dX12_feed_19 (lv_at hl 0 rfl) ?_
  refine lv_iconst (v := 5) hx hb dX12_feed_21 (by decide) ?_
  refine lv_icmp_ge (tgt := 115) hx hb dX12_feed_22 (by decide) (fun _ => ?_) (fun c9 => absurd c9 (by decide))
  refine lv_aload_n hx hb dX12_feed_115 rfl (lv_at hl 3 rfl) ?_
  refine va_get (D := E.1) (ci := 12) (v := .int 20) (C := RX12) (T := TX12) (N := 59) hx hb hts inX12 hown hK hP 0 rfl rfl 1 (by decide) fl152 (fun _ h9 => h9) rfl dX12_feed_116 ?_
  have hP9 := hP.sub (ws' := []) [] rfl
  have hD9 := hD.sub (ws' := []) [] (by decide) rfl
  exact W.iret (v := 20) hx hb hr (fun t ht hW => ⟨⟨20, (), rfl, rfl, by rw [ht]; exact hP9, hD9⟩, hS.F ht⟩) hS.2.2 dX12_feed_119
set_option maxHeartbeats 4000000 in
set_option maxRecDepth 100000 in
theorem c_X12_wind (l : Launch) (E : vE) (h0 : Nat) (q : Nat → Nat) (zone : Int32) (month : Int32) (dir : Int32) (force : Int32) (sz : Nat) : Met l yX12_wind wsX12_wind ({ frames := 2, cells := 0, slots := 0, locals := 42 }) (pcW E [.ref h0, .int zone, .int month, .int dir, .int force] sz [(h0, .inr (12, mO q)), (q 17, .inl (E.2 0, 288, .inl (fun _ => 0))), (q 18, .inl (E.2 0, 288, .inl (fun _ => 0)))]) (va_Qi (fun (r : Int32) (_ : Unit) => r = cond (inR zone 0 23 && inR month 0 11 && inR dir 0 7 && inR force 0 9) 0 (-2)) (fun (_ : Unit) (t : State) => wB E (va_A [(h0, .inr (12, mO q)), (q 17, .inl (E.2 0, 288, .inl (fun _ => 0))), (q 18, .inl (E.2 0, 288, .inl (fun _ => 0)))] sz) [] t) (va_A [(h0, .inr (12, mO q)), (q 17, .inl (E.2 0, 288, .inl (fun _ => 0))), (q 18, .inl (E.2 0, 288, .inl (fun _ => 0)))] sz)) 0 0 (va_A [(h0, .inr (12, mO q)), (q 17, .inl (E.2 0, 288, .inl (fun _ => 0))), (q 18, .inl (E.2 0, 288, .inl (fun _ => 0)))] sz) := by
  refine Met.ofW (cc := cX12_wind) (maxL := 7) (ret := (some .int)) (by decide) rfl ?_
  intro p e s m args below meth c s₁ B hml hv
  obtain ⟨rfl, hsz, hP, hkn, hD0, hst⟩ := hv
  have hx := B.exec
  have hb := B.bytes
  have hr := B.returns
  have hts := atoms_spec (ws := wsX12_wind) B.pre
  have hown : s.vm.findClass RX12 = some m.cls := findClass_of_methodNamed B.named
  have hlocks := B.notSynchronized
  subst hsz
  have hD := hD0.self (sz := s.heap.size)
  have hK := hkn.1
  have hAO := hkn.2.2
  generalize hAe : va_A [(h0, .inr (12, mO q)), (q 17, .inl (E.2 0, 288, .inl (fun _ => 0))), (q 18, .inl (E.2 0, 288, .inl (fun _ => 0)))] s.heap.size = A at hD hst ⊢
  have hA : ∀ q : Nat, s.heap.size ≤ q → A q := fun q h => by rw [← hAe]; exact Or.inr h
  have hS : va_S A s.heap s.heap [] := va_S.rf
  have hP : va_P E.1 vwCl [(h0, .inr (12, mO q)), (q 17, .inl (E.2 0, 288, .inl (fun _ => 0))), (q 18, .inl (E.2 0, 288, .inl (fun _ => 0)))] s.heap := hP
  have hl := lv_entry ([.ref h0, .int zone, .int month, .int dir, .int force]) (n := 7) (Nat.le_of_ble_eq_true rfl)
  rw [lg_entry_eq]
  generalize (lg_sl ([.ref h0, .int zone, .int month, .int dir, .int force]) ++ List.replicate (7 - (lg_sl ([.ref h0, .int zone, .int month, .int dir, .int force])).length) Slot.unset).toArray = ls at hl ⊢
  have hl : lv_has ls 7 [(0, .ref h0), (1, .int zone), (2, .int month), (3, .int dir), (4, .int force)] := hl
  have fl36 := hts (.fieldLink RX12 36 "BoatsHomeModel" "windTo" "[I") (by decide +kernel)
  have fl39 := hts (.fieldLink RX12 39 "BoatsHomeModel" "windForce" "[I") (by decide +kernel)
  have inX12 : ∀ w ∈ u_ws RX12 TX12 59, w ∈ wsX12_wind := by decide +kernel
  refine lv_iload_n hx hb dX12_wind_0 rfl (lv_at hl 1 rfl) ?_
  refine lv_iconst (v := 0) hx hb dX12_wind_1 (by decide) ?_
  refine lv_bipush (v := 23) hx hb dX12_wind_2 (by decide) ?_
  have hPc := hP.sub (ws' := []) [] rfl
  have hDc := hD.sub (ws' := []) [] (by decide) rfl
  have hFc := va_free (wc := []) hD hS hA [] rfl
  refine va_calli (va_runS (As := [.int zone, .int 0, .int 23]) (rest := []) ⟨hx, hb, hml, hown, hts⟩ (c_X12_in l E zone 0 23 s.heap.size ) (va_cwS 3 hts gX12_wind_X12_in rfl rfl rfl (by decide +kernel) ⟨Nat.le_of_ble_eq_true rfl, Nat.le_of_ble_eq_true rfl⟩) ⟨pcW_blind, (pcW_pre hPc hkn hDc hst hS hFc)⟩ rfl rfl hl.1 rfl (lv_room (Nat.le_of_ble_eq_true rfl)) dX12_wind_4 ⟨Nat.le_of_ble_eq_true rfl, Nat.le_of_ble_eq_true rfl⟩) hS (fun q _ h => hFc q h) hFc (fun r1 u t H1 locs ht hvm hw2 hB hz1 hk1 hS => ?_)
  obtain ⟨hP1, hD1⟩ := hB
  rw [ht] at hP1
  try dsimp only at hw2
  obtain ⟨hP, hD⟩ := va_join (wr := [(h0, .inr (12, mO q)), (q 17, .inl (E.2 0, 288, .inl (fun _ => 0))), (q 18, .inl (E.2 0, 288, .inl (fun _ => 0)))]) (w1 := []) hP hD [] [0, 1, 2] rfl rfl (by decide) (by decide) hk1 hFc hP1 hD1
  generalize H1 = H at hP hS ⊢
  have hP : va_P E.1 vwCl [(h0, .inr (12, mO q)), (q 17, .inl (E.2 0, 288, .inl (fun _ => 0))), (q 18, .inl (E.2 0, 288, .inl (fun _ => 0)))] H := hP
  have hD : va_D A [(h0, .inr (12, mO q)), (q 17, .inl (E.2 0, 288, .inl (fun _ => 0))), (q 18, .inl (E.2 0, 288, .inl (fun _ => 0)))] := hD
  refine lv_if_eq (tgt := 41) hx hb dX12_wind_7 (by decide) (fun c3 => ?_) (fun c3 => ?_)
  · have b4 : inR zone 0 23 = false := bz hw2 c3
    refine lv_bipush (v := (-2)) hx hb dX12_wind_41 (by decide) ?_
    have hP9 := hP.sub (ws' := []) [] rfl
    have hD9 := hD.sub (ws' := []) [] (by decide) rfl
    exact W.iret (v := (-2)) hx hb hr (fun t ht hW => ⟨⟨(-2), (), rfl, (by first | (rw [b4]; done) | (rw [b4]; rfl)), by rw [ht]; exact hP9, hD9⟩, hS.F ht⟩) hS.2.2 dX12_wind_43
  · have b5 : inR zone 0 23 = true := bn hw2 c3
    refine lv_iload_n hx hb dX12_wind_10 rfl (lv_at hl 2 rfl) ?_
    refine lv_iconst (v := 0) hx hb dX12_wind_11 (by decide) ?_
    refine lv_bipush (v := 11) hx hb dX12_wind_12 (by decide) ?_
    have hPc := hP.sub (ws' := []) [] rfl
    have hDc := hD.sub (ws' := []) [] (by decide) rfl
    have hFc := va_free (wc := []) hD hS hA [] rfl
    refine va_calli (va_runS (As := [.int month, .int 0, .int 11]) (rest := []) ⟨hx, hb, hml, hown, hts⟩ (c_X12_in l E month 0 11 H.size ) (va_cwS 3 hts gX12_wind_X12_in rfl rfl rfl (by decide +kernel) ⟨Nat.le_of_ble_eq_true rfl, Nat.le_of_ble_eq_true rfl⟩) ⟨pcW_blind, (pcW_pre hPc hkn hDc hst hS hFc)⟩ rfl rfl hl.1 rfl (lv_room (Nat.le_of_ble_eq_true rfl)) dX12_wind_14 ⟨Nat.le_of_ble_eq_true rfl, Nat.le_of_ble_eq_true rfl⟩) hS (fun q _ h => hFc q h) hFc (fun r6 u t H1 locs ht hvm hw7 hB hz1 hk1 hS => ?_)
    obtain ⟨hP1, hD1⟩ := hB
    rw [ht] at hP1
    try dsimp only at hw7
    obtain ⟨hP, hD⟩ := va_join (wr := [(h0, .inr (12, mO q)), (q 17, .inl (E.2 0, 288, .inl (fun _ => 0))), (q 18, .inl (E.2 0, 288, .inl (fun _ => 0)))]) (w1 := []) hP hD [] [0, 1, 2] rfl rfl (by decide) (by decide) hk1 hFc hP1 hD1
    generalize H1 = H at hP hS ⊢
    have hP : va_P E.1 vwCl [(h0, .inr (12, mO q)), (q 17, .inl (E.2 0, 288, .inl (fun _ => 0))), (q 18, .inl (E.2 0, 288, .inl (fun _ => 0)))] H := hP
    have hD : va_D A [(h0, .inr (12, mO q)), (q 17, .inl (E.2 0, 288, .inl (fun _ => 0))), (q 18, .inl (E.2 0, 288, .inl (fun _ => 0)))] := hD
    refine lv_if_eq (tgt := 41) hx hb dX12_wind_17 (by decide) (fun c8 => ?_) (fun c8 => ?_)
    · have b9 : inR month 0 11 = false := bz hw7 c8
      refine lv_bipush (v := (-2)) hx hb dX12_wind_41 (by decide) ?_
      have hP9 := hP.sub (ws' := []) [] rfl
      have hD9 := hD.sub (ws' := []) [] (by decide) rfl
      exact W.iret (v := (-2)) hx hb hr (fun t ht hW => ⟨⟨(-2), (), rfl, (by first | (rw [b5, b9]; done) | (rw [b5, b9]; rfl)), by rw [ht]; exact hP9, hD9⟩, hS.F ht⟩) hS.2.2 dX12_wind_43
    · have b10 : inR month 0 11 = true := bn hw7 c8
      refine lv_iload_n hx hb dX12_wind_20 rfl (lv_at hl 3 rfl) ?_
      refine lv_iconst (v := 0) hx hb dX12_wind_21 (by decide) ?_
      refine lv_bipush (v := 7) hx hb dX12_wind_22 (by decide) ?_
      have hPc := hP.sub (ws' := []) [] rfl
      have hDc := hD.sub (ws' := []) [] (by decide) rfl
      have hFc := va_free (wc := []) hD hS hA [] rfl
      refine va_calli (va_runS (As := [.int dir, .int 0, .int 7]) (rest := []) ⟨hx, hb, hml, hown, hts⟩ (c_X12_in l E dir 0 7 H.size ) (va_cwS 3 hts gX12_wind_X12_in rfl rfl rfl (by decide +kernel) ⟨Nat.le_of_ble_eq_true rfl, Nat.le_of_ble_eq_true rfl⟩) ⟨pcW_blind, (pcW_pre hPc hkn hDc hst hS hFc)⟩ rfl rfl hl.1 rfl (lv_room (Nat.le_of_ble_eq_true rfl)) dX12_wind_24 ⟨Nat.le_of_ble_eq_true rfl, Nat.le_of_ble_eq_true rfl⟩) hS (fun q _ h => hFc q h) hFc (fun r11 u t H1 locs ht hvm hw12 hB hz1 hk1 hS => ?_)
      obtain ⟨hP1, hD1⟩ := hB
      rw [ht] at hP1
      try dsimp only at hw12
      obtain ⟨hP, hD⟩ := va_join (wr := [(h0, .inr (12, mO q)), (q 17, .inl (E.2 0, 288, .inl (fun _ => 0))), (q 18, .inl (E.2 0, 288, .inl (fun _ => 0)))]) (w1 := []) hP hD [] [0, 1, 2] rfl rfl (by decide) (by decide) hk1 hFc hP1 hD1
      generalize H1 = H at hP hS ⊢
      have hP : va_P E.1 vwCl [(h0, .inr (12, mO q)), (q 17, .inl (E.2 0, 288, .inl (fun _ => 0))), (q 18, .inl (E.2 0, 288, .inl (fun _ => 0)))] H := hP
      have hD : va_D A [(h0, .inr (12, mO q)), (q 17, .inl (E.2 0, 288, .inl (fun _ => 0))), (q 18, .inl (E.2 0, 288, .inl (fun _ => 0)))] := hD
      refine lv_if_eq (tgt := 41) hx hb dX12_wind_27 (by decide) (fun c13 => ?_) (fun c13 => ?_)
      · have b14 : inR dir 0 7 = false := bz hw12 c13
        refine lv_bipush (v := (-2)) hx hb dX12_wind_41 (by decide) ?_
        have hP9 := hP.sub (ws' := []) [] rfl
        have hD9 := hD.sub (ws' := []) [] (by decide) rfl
        exact W.iret (v := (-2)) hx hb hr (fun t ht hW => ⟨⟨(-2), (), rfl, (by first | (rw [b5, b10, b14]; done) | (rw [b5, b10, b14]; rfl)), by rw [ht]; exact hP9, hD9⟩, hS.F ht⟩) hS.2.2 dX12_wind_43
      · have b15 : inR dir 0 7 = true := bn hw12 c13
        refine lv_iload hx hb dX12_wind_30 (lv_at hl 4 rfl) ?_
        refine lv_iconst (v := 0) hx hb dX12_wind_32 (by decide) ?_
        refine lv_bipush (v := 9) hx hb dX12_wind_33 (by decide) ?_
        have hPc := hP.sub (ws' := []) [] rfl
        have hDc := hD.sub (ws' := []) [] (by decide) rfl
        have hFc := va_free (wc := []) hD hS hA [] rfl
        refine va_calli (va_runS (As := [.int force, .int 0, .int 9]) (rest := []) ⟨hx, hb, hml, hown, hts⟩ (c_X12_in l E force 0 9 H.size ) (va_cwS 3 hts gX12_wind_X12_in rfl rfl rfl (by decide +kernel) ⟨Nat.le_of_ble_eq_true rfl, Nat.le_of_ble_eq_true rfl⟩) ⟨pcW_blind, (pcW_pre hPc hkn hDc hst hS hFc)⟩ rfl rfl hl.1 rfl (lv_room (Nat.le_of_ble_eq_true rfl)) dX12_wind_35 ⟨Nat.le_of_ble_eq_true rfl, Nat.le_of_ble_eq_true rfl⟩) hS (fun q _ h => hFc q h) hFc (fun r16 u t H1 locs ht hvm hw17 hB hz1 hk1 hS => ?_)
        obtain ⟨hP1, hD1⟩ := hB
        rw [ht] at hP1
        try dsimp only at hw17
        obtain ⟨hP, hD⟩ := va_join (wr := [(h0, .inr (12, mO q)), (q 17, .inl (E.2 0, 288, .inl (fun _ => 0))), (q 18, .inl (E.2 0, 288, .inl (fun _ => 0)))]) (w1 := []) hP hD [] [0, 1, 2] rfl rfl (by decide) (by decide) hk1 hFc hP1 hD1
        generalize H1 = H at hP hS ⊢
        have hP : va_P E.1 vwCl [(h0, .inr (12, mO q)), (q 17, .inl (E.2 0, 288, .inl (fun _ => 0))), (q 18, .inl (E.2 0, 288, .inl (fun _ => 0)))] H := hP
        have hD : va_D A [(h0, .inr (12, mO q)), (q 17, .inl (E.2 0, 288, .inl (fun _ => 0))), (q 18, .inl (E.2 0, 288, .inl (fun _ => 0)))] := hD
        refine lv_if_ne (tgt := 44) hx hb dX12_wind_38 (by decide) (fun c18 => ?_) (fun c18 => ?_)
        · have b19 : inR force 0 9 = true := bn hw17 c18
          refine lv_bipush (v := 12) hx hb dX12_wind_44 (by decide) ?_
          refine lv_iload_n hx hb dX12_wind_46 rfl (lv_at hl 1 rfl) ?_
          refine lv_imul hx hb dX12_wind_47 ?_
          refine lv_topi (fun x20 ex20 => ?_)
          refine lv_iload_n hx hb dX12_wind_48 rfl (lv_at hl 2 rfl) ?_
          refine lv_iadd hx hb dX12_wind_49 ?_
          refine lv_topi (fun x21 ex21 => ?_)
          refine lv_istore (lv' := [(5, .int x21), (0, .ref h0), (1, .int zone), (2, .int month), (3, .int dir), (4, .int force)]) hx hb dX12_wind_50 hl (by decide) rfl (fun ls hl => ?_)
          refine lv_bipush (v := 10) hx hb dX12_wind_52 (by decide) ?_
          refine lv_aload_n hx hb dX12_wind_54 rfl (lv_at hl 1 rfl) ?_
          refine va_get (D := E.1) (ci := 12) (v := .ref (q 17)) (C := RX12) (T := TX12) (N := 59) hx hb hts inX12 hown hK hP 0 rfl rfl 17 (by decide) fl36 (fun _ h9 => h9) rfl dX12_wind_55 ?_
          refine lv_iload hx hb dX12_wind_58 (lv_at hl 0 rfl) ?_
          have hi22 : vp_in x21 288 := by rw [ex21, ex20]; exact ixB b5 (a := 23) (by decide) b10 (b := 11) (by decide) (M := 12) rfl (by decide) (by decide)
          refine va_iald hx hb hK hP 1 0 rfl rfl hi22 dX12_wind_60 ?_
          refine lv_imul hx hb dX12_wind_61 ?_
          refine lv_topi (fun x23 ex23 => ?_)
          obtain rfl : x23 = 0 := ex23.trans (by decide +kernel)
          refine lv_aload_n hx hb dX12_wind_62 rfl (lv_at hl 1 rfl) ?_
          refine va_get (D := E.1) (ci := 12) (v := .ref (q 18)) (C := RX12) (T := TX12) (N := 59) hx hb hts inX12 hown hK hP 0 rfl rfl 18 (by decide) fl39 (fun _ h9 => h9) rfl dX12_wind_63 ?_
          refine lv_iload hx hb dX12_wind_66 (lv_at hl 0 rfl) ?_
          refine va_iald hx hb hK hP 2 0 rfl rfl hi22 dX12_wind_68 ?_
          refine lv_iadd hx hb dX12_wind_69 ?_
          refine lv_topi (fun x24 ex24 => ?_)
          obtain rfl : x24 = 0 := ex24.trans (by decide +kernel)
          refine lv_istore (lv' := [(6, .int 0), (5, .int x21), (0, .ref h0), (1, .int zone), (2, .int month), (3, .int dir), (4, .int force)]) hx hb dX12_wind_70 hl (by decide) rfl (fun ls hl => ?_)
          refine lv_aload_n hx hb dX12_wind_72 rfl (lv_at hl 2 rfl) ?_
          refine va_get (D := E.1) (ci := 12) (v := .ref (q 17)) (C := RX12) (T := TX12) (N := 59) hx hb hts inX12 hown hK hP 0 rfl rfl 17 (by decide) fl36 (fun _ h9 => h9) rfl dX12_wind_73 ?_
          refine lv_iload hx hb dX12_wind_76 (lv_at hl 1 rfl) ?_
          refine lv_iload_n hx hb dX12_wind_78 rfl (lv_at hl 5 rfl) ?_
          refine va_iast hx hb hK hP hD hS 1 0 rfl rfl hi22 dX12_wind_79 (fun H locs hP hD hS => ?_)
          have hP : va_P E.1 vwCl [(h0, .inr (12, mO q)), (q 17, .inl (E.2 0, 288, .inl (upd (fun _ => 0) x21.toNatClampNeg dir))), (q 18, .inl (E.2 0, 288, .inl (fun _ => 0)))] H := hP
          have hD : va_D A [(h0, .inr (12, mO q)), (q 17, .inl (E.2 0, 288, .inl (upd (fun _ => 0) x21.toNatClampNeg dir))), (q 18, .inl (E.2 0, 288, .inl (fun _ => 0)))] := hD
          obtain ⟨f25, ef25⟩ : ∃ g : Nat → Int32, g = upd (fun _ => 0) x21.toNatClampNeg dir := ⟨_, rfl⟩
          rw [← ef25] at hP hD
          refine lv_aload_n hx hb dX12_wind_80 rfl (lv_at hl 2 rfl) ?_
          refine va_get (D := E.1) (ci := 12) (v := .ref (q 18)) (C := RX12) (T := TX12) (N := 59) hx hb hts inX12 hown hK hP 0 rfl rfl 18 (by decide) fl39 (fun _ h9 => h9) rfl dX12_wind_81 ?_
          refine lv_iload hx hb dX12_wind_84 (lv_at hl 1 rfl) ?_
          refine lv_iload hx hb dX12_wind_86 (lv_at hl 6 rfl) ?_
          refine va_iast hx hb hK hP hD hS 2 0 rfl rfl hi22 dX12_wind_88 (fun H locs hP hD hS => ?_)
          have hP : va_P E.1 vwCl [(h0, .inr (12, mO q)), (q 17, .inl (E.2 0, 288, .inl f25)), (q 18, .inl (E.2 0, 288, .inl (upd (fun _ => 0) x21.toNatClampNeg force)))] H := hP
          have hD : va_D A [(h0, .inr (12, mO q)), (q 17, .inl (E.2 0, 288, .inl f25)), (q 18, .inl (E.2 0, 288, .inl (upd (fun _ => 0) x21.toNatClampNeg force)))] := hD
          obtain ⟨f26, ef26⟩ : ∃ g : Nat → Int32, g = upd (fun _ => 0) x21.toNatClampNeg force := ⟨_, rfl⟩
          rw [← ef26] at hP hD
          refine lv_iload hx hb dX12_wind_89 (lv_at hl 0 rfl) ?_
          have hP9 := hP.sub (ws' := []) [] rfl
          have hD9 := hD.sub (ws' := []) [] (by decide) rfl
          exact W.iret (v := 0) hx hb hr (fun t ht hW => ⟨⟨0, (), rfl, (by first | (rw [b5, b10, b15, b19]; done) | (rw [b5, b10, b15, b19]; rfl)), by rw [ht]; exact hP9, hD9⟩, hS.F ht⟩) hS.2.2 dX12_wind_91
        · have b27 : inR force 0 9 = false := bz hw17 c18
          refine lv_bipush (v := (-2)) hx hb dX12_wind_41 (by decide) ?_
          have hP9 := hP.sub (ws' := []) [] rfl
          have hD9 := hD.sub (ws' := []) [] (by decide) rfl
          exact W.iret (v := (-2)) hx hb hr (fun t ht hW => ⟨⟨(-2), (), rfl, (by first | (rw [b5, b10, b15, b27]; done) | (rw [b5, b10, b15, b27]; rfl)), by rw [ht]; exact hP9, hD9⟩, hS.F ht⟩) hS.2.2 dX12_wind_43
set_option maxHeartbeats 4000000 in
set_option maxRecDepth 100000 in
theorem c_X12_port (l : Launch) (E : vE) (h0 : Nat) (q : Nat → Nat) (pp : Int32) (place : Int32) (sz : Nat) : Met l yX12_port wsX12_port ({ frames := 2, cells := 0, slots := 0, locals := 42 }) (pcW E [.ref h0, .int pp, .int place] sz [(h0, .inr (12, mO q)), (q 19, .inl (E.2 0, 10, .inl (fun _ => 0)))]) (va_Qi (fun (r : Int32) (_ : Unit) => r = cond (inR pp 0 9 && isPl place) 0 (-2)) (fun (_ : Unit) (t : State) => wB E (va_A [(h0, .inr (12, mO q)), (q 19, .inl (E.2 0, 10, .inl (fun _ => 0)))] sz) [] t) (va_A [(h0, .inr (12, mO q)), (q 19, .inl (E.2 0, 10, .inl (fun _ => 0)))] sz)) 0 0 (va_A [(h0, .inr (12, mO q)), (q 19, .inl (E.2 0, 10, .inl (fun _ => 0)))] sz) := by
  refine Met.ofW (cc := cX12_port) (maxL := 4) (ret := (some .int)) (by decide) rfl ?_
  intro p e s m args below meth c s₁ B hml hv
  obtain ⟨rfl, hsz, hP, hkn, hD0, hst⟩ := hv
  have hx := B.exec
  have hb := B.bytes
  have hr := B.returns
  have hts := atoms_spec (ws := wsX12_port) B.pre
  have hown : s.vm.findClass RX12 = some m.cls := findClass_of_methodNamed B.named
  have hlocks := B.notSynchronized
  subst hsz
  have hD := hD0.self (sz := s.heap.size)
  have hK := hkn.1
  have hAO := hkn.2.2
  generalize hAe : va_A [(h0, .inr (12, mO q)), (q 19, .inl (E.2 0, 10, .inl (fun _ => 0)))] s.heap.size = A at hD hst ⊢
  have hA : ∀ q : Nat, s.heap.size ≤ q → A q := fun q h => by rw [← hAe]; exact Or.inr h
  have hS : va_S A s.heap s.heap [] := va_S.rf
  have hP : va_P E.1 vwCl [(h0, .inr (12, mO q)), (q 19, .inl (E.2 0, 10, .inl (fun _ => 0)))] s.heap := hP
  have hl := lv_entry ([.ref h0, .int pp, .int place]) (n := 4) (Nat.le_of_ble_eq_true rfl)
  rw [lg_entry_eq]
  generalize (lg_sl ([.ref h0, .int pp, .int place]) ++ List.replicate (4 - (lg_sl ([.ref h0, .int pp, .int place])).length) Slot.unset).toArray = ls at hl ⊢
  have hl : lv_has ls 4 [(0, .ref h0), (1, .int pp), (2, .int place)] := hl
  have fl42 := hts (.fieldLink RX12 42 "BoatsHomeModel" "ports" "[I") (by decide +kernel)
  have inX12 : ∀ w ∈ u_ws RX12 TX12 59, w ∈ wsX12_port := by decide +kernel
  refine lv_iload_n hx hb dX12_port_0 rfl (lv_at hl 1 rfl) ?_
  have hPc := hP.sub (ws' := []) [] rfl
  have hDc := hD.sub (ws' := []) [] (by decide) rfl
  have hFc := va_free (wc := []) hD hS hA [] rfl
  refine va_calli (va_runS (As := [.int pp]) (rest := []) ⟨hx, hb, hml, hown, hts⟩ (c_X12_isPort l E pp s.heap.size ) (va_cwS 1 hts gX12_port_X12_isPort rfl rfl rfl (by decide +kernel) ⟨Nat.le_of_ble_eq_true rfl, Nat.le_of_ble_eq_true rfl⟩) ⟨pcW_blind, (pcW_pre hPc hkn hDc hst hS hFc)⟩ rfl rfl hl.1 rfl (lv_room (Nat.le_of_ble_eq_true rfl)) dX12_port_1 ⟨Nat.le_of_ble_eq_true rfl, Nat.le_of_ble_eq_true rfl⟩) hS (fun q _ h => hFc q h) hFc (fun r1 u t H1 locs ht hvm hw2 hB hz1 hk1 hS => ?_)
  obtain ⟨hP1, hD1⟩ := hB
  rw [ht] at hP1
  try dsimp only at hw2
  obtain ⟨hP, hD⟩ := va_join (wr := [(h0, .inr (12, mO q)), (q 19, .inl (E.2 0, 10, .inl (fun _ => 0)))]) (w1 := []) hP hD [] [0, 1] rfl rfl (by decide) (by decide) hk1 hFc hP1 hD1
  generalize H1 = H at hP hS ⊢
  have hP : va_P E.1 vwCl [(h0, .inr (12, mO q)), (q 19, .inl (E.2 0, 10, .inl (fun _ => 0)))] H := hP
  have hD : va_D A [(h0, .inr (12, mO q)), (q 19, .inl (E.2 0, 10, .inl (fun _ => 0)))] := hD
  refine lv_if_eq (tgt := 14) hx hb dX12_port_4 (by decide) (fun c3 => ?_) (fun c3 => ?_)
  · have b4 : inR pp 0 9 = false := bz hw2 c3
    refine lv_bipush (v := (-2)) hx hb dX12_port_14 (by decide) ?_
    have hP9 := hP.sub (ws' := []) [] rfl
    have hD9 := hD.sub (ws' := []) [] (by decide) rfl
    exact W.iret (v := (-2)) hx hb hr (fun t ht hW => ⟨⟨(-2), (), rfl, (by first | (rw [b4]; done) | (rw [b4]; rfl)), by rw [ht]; exact hP9, hD9⟩, hS.F ht⟩) hS.2.2 dX12_port_16
  · have b5 : inR pp 0 9 = true := bn hw2 c3
    refine lv_iload_n hx hb dX12_port_7 rfl (lv_at hl 2 rfl) ?_
    have hPc := hP.sub (ws' := []) [] rfl
    have hDc := hD.sub (ws' := []) [] (by decide) rfl
    have hFc := va_free (wc := []) hD hS hA [] rfl
    refine va_calli (va_runS (As := [.int place]) (rest := []) ⟨hx, hb, hml, hown, hts⟩ (c_X12_isPlace l E place H.size ) (va_cwS 1 hts gX12_port_X12_isPlace rfl rfl rfl (by decide +kernel) ⟨Nat.le_of_ble_eq_true rfl, Nat.le_of_ble_eq_true rfl⟩) ⟨pcW_blind, (pcW_pre hPc hkn hDc hst hS hFc)⟩ rfl rfl hl.1 rfl (lv_room (Nat.le_of_ble_eq_true rfl)) dX12_port_8 ⟨Nat.le_of_ble_eq_true rfl, Nat.le_of_ble_eq_true rfl⟩) hS (fun q _ h => hFc q h) hFc (fun r6 u t H1 locs ht hvm hw7 hB hz1 hk1 hS => ?_)
    obtain ⟨hP1, hD1⟩ := hB
    rw [ht] at hP1
    try dsimp only at hw7
    obtain ⟨hP, hD⟩ := va_join (wr := [(h0, .inr (12, mO q)), (q 19, .inl (E.2 0, 10, .inl (fun _ => 0)))]) (w1 := []) hP hD [] [0, 1] rfl rfl (by decide) (by decide) hk1 hFc hP1 hD1
    generalize H1 = H at hP hS ⊢
    have hP : va_P E.1 vwCl [(h0, .inr (12, mO q)), (q 19, .inl (E.2 0, 10, .inl (fun _ => 0)))] H := hP
    have hD : va_D A [(h0, .inr (12, mO q)), (q 19, .inl (E.2 0, 10, .inl (fun _ => 0)))] := hD
    refine lv_if_ne (tgt := 17) hx hb dX12_port_11 (by decide) (fun c8 => ?_) (fun c8 => ?_)
    · have b9 : isPl place = true := bn hw7 c8
      refine lv_aload_n hx hb dX12_port_17 rfl (lv_at hl 0 rfl) ?_
      refine va_get (D := E.1) (ci := 12) (v := .ref (q 19)) (C := RX12) (T := TX12) (N := 59) hx hb hts inX12 hown hK hP 0 rfl rfl 19 (by decide) fl42 (fun _ h9 => h9) rfl dX12_port_18 ?_
      refine lv_iload_n hx hb dX12_port_21 rfl (lv_at hl 1 rfl) ?_
      have hi10 : vp_in pp 10 := inR_in (by decide) b5
      refine va_iald hx hb hK hP 1 0 rfl rfl hi10 dX12_port_22 ?_
      refine lv_istore_n (lv' := [(3, .int 0), (0, .ref h0), (1, .int pp), (2, .int place)]) hx hb dX12_port_23 rfl hl (by decide) rfl (fun ls hl => ?_)
      refine lv_aload_n hx hb dX12_port_24 rfl (lv_at hl 1 rfl) ?_
      refine va_get (D := E.1) (ci := 12) (v := .ref (q 19)) (C := RX12) (T := TX12) (N := 59) hx hb hts inX12 hown hK hP 0 rfl rfl 19 (by decide) fl42 (fun _ h9 => h9) rfl dX12_port_25 ?_
      refine lv_iload_n hx hb dX12_port_28 rfl (lv_at hl 2 rfl) ?_
      refine lv_iload_n hx hb dX12_port_29 rfl (lv_at hl 3 rfl) ?_
      refine va_iast hx hb hK hP hD hS 1 0 rfl rfl hi10 dX12_port_30 (fun H locs hP hD hS => ?_)
      have hP : va_P E.1 vwCl [(h0, .inr (12, mO q)), (q 19, .inl (E.2 0, 10, .inl (upd (fun _ => 0) pp.toNatClampNeg place)))] H := hP
      have hD : va_D A [(h0, .inr (12, mO q)), (q 19, .inl (E.2 0, 10, .inl (upd (fun _ => 0) pp.toNatClampNeg place)))] := hD
      obtain ⟨f11, ef11⟩ : ∃ g : Nat → Int32, g = upd (fun _ => 0) pp.toNatClampNeg place := ⟨_, rfl⟩
      rw [← ef11] at hP hD
      refine lv_iload_n hx hb dX12_port_31 rfl (lv_at hl 0 rfl) ?_
      have hP9 := hP.sub (ws' := []) [] rfl
      have hD9 := hD.sub (ws' := []) [] (by decide) rfl
      exact W.iret (v := 0) hx hb hr (fun t ht hW => ⟨⟨0, (), rfl, (by first | (rw [b5, b9]; done) | (rw [b5, b9]; rfl)), by rw [ht]; exact hP9, hD9⟩, hS.F ht⟩) hS.2.2 dX12_port_32
    · have b12 : isPl place = false := bz hw7 c8
      refine lv_bipush (v := (-2)) hx hb dX12_port_14 (by decide) ?_
      have hP9 := hP.sub (ws' := []) [] rfl
      have hD9 := hD.sub (ws' := []) [] (by decide) rfl
      exact W.iret (v := (-2)) hx hb hr (fun t ht hW => ⟨⟨(-2), (), rfl, (by first | (rw [b5, b12]; done) | (rw [b5, b12]; rfl)), by rw [ht]; exact hP9, hD9⟩, hS.F ht⟩) hS.2.2 dX12_port_16
set_option maxHeartbeats 4000000 in
set_option maxRecDepth 100000 in
theorem c_X12_speed (l : Launch) (E : vE) (h0 : Nat) (q : Nat → Nat) (b : Int32) (angle : Int32) (band : Int32) (tenths : Int32) (sz : Nat) : Met l yX12_speed wsX12_speed ({ frames := 2, cells := 0, slots := 0, locals := 42 }) (pcW E [.ref h0, .int b, .int angle, .int band, .int tenths] sz [(h0, .inr (12, mO q)), (q 20, .inl (E.2 0, 150, .inl (fun _ => 0)))]) (va_Qi (fun (r : Int32) (_ : Unit) => r = cond (inR b 0 5 && inR angle 0 4 && inR band 0 4 && inR tenths 0 40) 0 (-2)) (fun (_ : Unit) (t : State) => wB E (va_A [(h0, .inr (12, mO q)), (q 20, .inl (E.2 0, 150, .inl (fun _ => 0)))] sz) [] t) (va_A [(h0, .inr (12, mO q)), (q 20, .inl (E.2 0, 150, .inl (fun _ => 0)))] sz)) 0 0 (va_A [(h0, .inr (12, mO q)), (q 20, .inl (E.2 0, 150, .inl (fun _ => 0)))] sz) := by
  refine Met.ofW (cc := cX12_speed) (maxL := 7) (ret := (some .int)) (by decide) rfl ?_
  intro p e s m args below meth c s₁ B hml hv
  obtain ⟨rfl, hsz, hP, hkn, hD0, hst⟩ := hv
  have hx := B.exec
  have hb := B.bytes
  have hr := B.returns
  have hts := atoms_spec (ws := wsX12_speed) B.pre
  have hown : s.vm.findClass RX12 = some m.cls := findClass_of_methodNamed B.named
  have hlocks := B.notSynchronized
  subst hsz
  have hD := hD0.self (sz := s.heap.size)
  have hK := hkn.1
  have hAO := hkn.2.2
  generalize hAe : va_A [(h0, .inr (12, mO q)), (q 20, .inl (E.2 0, 150, .inl (fun _ => 0)))] s.heap.size = A at hD hst ⊢
  have hA : ∀ q : Nat, s.heap.size ≤ q → A q := fun q h => by rw [← hAe]; exact Or.inr h
  have hS : va_S A s.heap s.heap [] := va_S.rf
  have hP : va_P E.1 vwCl [(h0, .inr (12, mO q)), (q 20, .inl (E.2 0, 150, .inl (fun _ => 0)))] s.heap := hP
  have hl := lv_entry ([.ref h0, .int b, .int angle, .int band, .int tenths]) (n := 7) (Nat.le_of_ble_eq_true rfl)
  rw [lg_entry_eq]
  generalize (lg_sl ([.ref h0, .int b, .int angle, .int band, .int tenths]) ++ List.replicate (7 - (lg_sl ([.ref h0, .int b, .int angle, .int band, .int tenths])).length) Slot.unset).toArray = ls at hl ⊢
  have hl : lv_has ls 7 [(0, .ref h0), (1, .int b), (2, .int angle), (3, .int band), (4, .int tenths)] := hl
  have fl45 := hts (.fieldLink RX12 45 "BoatsHomeModel" "speeds" "[I") (by decide +kernel)
  have inX12 : ∀ w ∈ u_ws RX12 TX12 59, w ∈ wsX12_speed := by decide +kernel
  refine lv_iload_n hx hb dX12_speed_0 rfl (lv_at hl 1 rfl) ?_
  have hPc := hP.sub (ws' := []) [] rfl
  have hDc := hD.sub (ws' := []) [] (by decide) rfl
  have hFc := va_free (wc := []) hD hS hA [] rfl
  refine va_calli (va_runS (As := [.int b]) (rest := []) ⟨hx, hb, hml, hown, hts⟩ (c_X12_isBoat l E b s.heap.size ) (va_cwS 1 hts gX12_speed_X12_isBoat rfl rfl rfl (by decide +kernel) ⟨Nat.le_of_ble_eq_true rfl, Nat.le_of_ble_eq_true rfl⟩) ⟨pcW_blind, (pcW_pre hPc hkn hDc hst hS hFc)⟩ rfl rfl hl.1 rfl (lv_room (Nat.le_of_ble_eq_true rfl)) dX12_speed_1 ⟨Nat.le_of_ble_eq_true rfl, Nat.le_of_ble_eq_true rfl⟩) hS (fun q _ h => hFc q h) hFc (fun r1 u t H1 locs ht hvm hw2 hB hz1 hk1 hS => ?_)
  obtain ⟨hP1, hD1⟩ := hB
  rw [ht] at hP1
  try dsimp only at hw2
  obtain ⟨hP, hD⟩ := va_join (wr := [(h0, .inr (12, mO q)), (q 20, .inl (E.2 0, 150, .inl (fun _ => 0)))]) (w1 := []) hP hD [] [0, 1] rfl rfl (by decide) (by decide) hk1 hFc hP1 hD1
  generalize H1 = H at hP hS ⊢
  have hP : va_P E.1 vwCl [(h0, .inr (12, mO q)), (q 20, .inl (E.2 0, 150, .inl (fun _ => 0)))] H := hP
  have hD : va_D A [(h0, .inr (12, mO q)), (q 20, .inl (E.2 0, 150, .inl (fun _ => 0)))] := hD
  refine lv_if_eq (tgt := 36) hx hb dX12_speed_4 (by decide) (fun c3 => ?_) (fun c3 => ?_)
  · have b4 : inR b 0 5 = false := bz hw2 c3
    refine lv_bipush (v := (-2)) hx hb dX12_speed_36 (by decide) ?_
    have hP9 := hP.sub (ws' := []) [] rfl
    have hD9 := hD.sub (ws' := []) [] (by decide) rfl
    exact W.iret (v := (-2)) hx hb hr (fun t ht hW => ⟨⟨(-2), (), rfl, (by first | (rw [b4]; done) | (rw [b4]; rfl)), by rw [ht]; exact hP9, hD9⟩, hS.F ht⟩) hS.2.2 dX12_speed_38
  · have b5 : inR b 0 5 = true := bn hw2 c3
    refine lv_iload_n hx hb dX12_speed_7 rfl (lv_at hl 2 rfl) ?_
    refine lv_iconst (v := 0) hx hb dX12_speed_8 (by decide) ?_
    refine lv_iconst (v := 4) hx hb dX12_speed_9 (by decide) ?_
    have hPc := hP.sub (ws' := []) [] rfl
    have hDc := hD.sub (ws' := []) [] (by decide) rfl
    have hFc := va_free (wc := []) hD hS hA [] rfl
    refine va_calli (va_runS (As := [.int angle, .int 0, .int 4]) (rest := []) ⟨hx, hb, hml, hown, hts⟩ (c_X12_in l E angle 0 4 H.size ) (va_cwS 3 hts gX12_speed_X12_in rfl rfl rfl (by decide +kernel) ⟨Nat.le_of_ble_eq_true rfl, Nat.le_of_ble_eq_true rfl⟩) ⟨pcW_blind, (pcW_pre hPc hkn hDc hst hS hFc)⟩ rfl rfl hl.1 rfl (lv_room (Nat.le_of_ble_eq_true rfl)) dX12_speed_10 ⟨Nat.le_of_ble_eq_true rfl, Nat.le_of_ble_eq_true rfl⟩) hS (fun q _ h => hFc q h) hFc (fun r6 u t H1 locs ht hvm hw7 hB hz1 hk1 hS => ?_)
    obtain ⟨hP1, hD1⟩ := hB
    rw [ht] at hP1
    try dsimp only at hw7
    obtain ⟨hP, hD⟩ := va_join (wr := [(h0, .inr (12, mO q)), (q 20, .inl (E.2 0, 150, .inl (fun _ => 0)))]) (w1 := []) hP hD [] [0, 1] rfl rfl (by decide) (by decide) hk1 hFc hP1 hD1
    generalize H1 = H at hP hS ⊢
    have hP : va_P E.1 vwCl [(h0, .inr (12, mO q)), (q 20, .inl (E.2 0, 150, .inl (fun _ => 0)))] H := hP
    have hD : va_D A [(h0, .inr (12, mO q)), (q 20, .inl (E.2 0, 150, .inl (fun _ => 0)))] := hD
    refine lv_if_eq (tgt := 36) hx hb dX12_speed_13 (by decide) (fun c8 => ?_) (fun c8 => ?_)
    · have b9 : inR angle 0 4 = false := bz hw7 c8
      refine lv_bipush (v := (-2)) hx hb dX12_speed_36 (by decide) ?_
      have hP9 := hP.sub (ws' := []) [] rfl
      have hD9 := hD.sub (ws' := []) [] (by decide) rfl
      exact W.iret (v := (-2)) hx hb hr (fun t ht hW => ⟨⟨(-2), (), rfl, (by first | (rw [b5, b9]; done) | (rw [b5, b9]; rfl)), by rw [ht]; exact hP9, hD9⟩, hS.F ht⟩) hS.2.2 dX12_speed_38
    · have b10 : inR angle 0 4 = true := bn hw7 c8
      refine lv_iload_n hx hb dX12_speed_16 rfl (lv_at hl 3 rfl) ?_
      refine lv_iconst (v := 0) hx hb dX12_speed_17 (by decide) ?_
      refine lv_iconst (v := 4) hx hb dX12_speed_18 (by decide) ?_
      have hPc := hP.sub (ws' := []) [] rfl
      have hDc := hD.sub (ws' := []) [] (by decide) rfl
      have hFc := va_free (wc := []) hD hS hA [] rfl
      refine va_calli (va_runS (As := [.int band, .int 0, .int 4]) (rest := []) ⟨hx, hb, hml, hown, hts⟩ (c_X12_in l E band 0 4 H.size ) (va_cwS 3 hts gX12_speed_X12_in rfl rfl rfl (by decide +kernel) ⟨Nat.le_of_ble_eq_true rfl, Nat.le_of_ble_eq_true rfl⟩) ⟨pcW_blind, (pcW_pre hPc hkn hDc hst hS hFc)⟩ rfl rfl hl.1 rfl (lv_room (Nat.le_of_ble_eq_true rfl)) dX12_speed_19 ⟨Nat.le_of_ble_eq_true rfl, Nat.le_of_ble_eq_true rfl⟩) hS (fun q _ h => hFc q h) hFc (fun r11 u t H1 locs ht hvm hw12 hB hz1 hk1 hS => ?_)
      obtain ⟨hP1, hD1⟩ := hB
      rw [ht] at hP1
      try dsimp only at hw12
      obtain ⟨hP, hD⟩ := va_join (wr := [(h0, .inr (12, mO q)), (q 20, .inl (E.2 0, 150, .inl (fun _ => 0)))]) (w1 := []) hP hD [] [0, 1] rfl rfl (by decide) (by decide) hk1 hFc hP1 hD1
      generalize H1 = H at hP hS ⊢
      have hP : va_P E.1 vwCl [(h0, .inr (12, mO q)), (q 20, .inl (E.2 0, 150, .inl (fun _ => 0)))] H := hP
      have hD : va_D A [(h0, .inr (12, mO q)), (q 20, .inl (E.2 0, 150, .inl (fun _ => 0)))] := hD
      refine lv_if_eq (tgt := 36) hx hb dX12_speed_22 (by decide) (fun c13 => ?_) (fun c13 => ?_)
      · have b14 : inR band 0 4 = false := bz hw12 c13
        refine lv_bipush (v := (-2)) hx hb dX12_speed_36 (by decide) ?_
        have hP9 := hP.sub (ws' := []) [] rfl
        have hD9 := hD.sub (ws' := []) [] (by decide) rfl
        exact W.iret (v := (-2)) hx hb hr (fun t ht hW => ⟨⟨(-2), (), rfl, (by first | (rw [b5, b10, b14]; done) | (rw [b5, b10, b14]; rfl)), by rw [ht]; exact hP9, hD9⟩, hS.F ht⟩) hS.2.2 dX12_speed_38
      · have b15 : inR band 0 4 = true := bn hw12 c13
        refine lv_iload hx hb dX12_speed_25 (lv_at hl 4 rfl) ?_
        refine lv_iconst (v := 0) hx hb dX12_speed_27 (by decide) ?_
        refine lv_bipush (v := 40) hx hb dX12_speed_28 (by decide) ?_
        have hPc := hP.sub (ws' := []) [] rfl
        have hDc := hD.sub (ws' := []) [] (by decide) rfl
        have hFc := va_free (wc := []) hD hS hA [] rfl
        refine va_calli (va_runS (As := [.int tenths, .int 0, .int 40]) (rest := []) ⟨hx, hb, hml, hown, hts⟩ (c_X12_in l E tenths 0 40 H.size ) (va_cwS 3 hts gX12_speed_X12_in rfl rfl rfl (by decide +kernel) ⟨Nat.le_of_ble_eq_true rfl, Nat.le_of_ble_eq_true rfl⟩) ⟨pcW_blind, (pcW_pre hPc hkn hDc hst hS hFc)⟩ rfl rfl hl.1 rfl (lv_room (Nat.le_of_ble_eq_true rfl)) dX12_speed_30 ⟨Nat.le_of_ble_eq_true rfl, Nat.le_of_ble_eq_true rfl⟩) hS (fun q _ h => hFc q h) hFc (fun r16 u t H1 locs ht hvm hw17 hB hz1 hk1 hS => ?_)
        obtain ⟨hP1, hD1⟩ := hB
        rw [ht] at hP1
        try dsimp only at hw17
        obtain ⟨hP, hD⟩ := va_join (wr := [(h0, .inr (12, mO q)), (q 20, .inl (E.2 0, 150, .inl (fun _ => 0)))]) (w1 := []) hP hD [] [0, 1] rfl rfl (by decide) (by decide) hk1 hFc hP1 hD1
        generalize H1 = H at hP hS ⊢
        have hP : va_P E.1 vwCl [(h0, .inr (12, mO q)), (q 20, .inl (E.2 0, 150, .inl (fun _ => 0)))] H := hP
        have hD : va_D A [(h0, .inr (12, mO q)), (q 20, .inl (E.2 0, 150, .inl (fun _ => 0)))] := hD
        refine lv_if_ne (tgt := 39) hx hb dX12_speed_33 (by decide) (fun c18 => ?_) (fun c18 => ?_)
        · have b19 : inR tenths 0 40 = true := bn hw17 c18
          refine lv_bipush (v := 25) hx hb dX12_speed_39 (by decide) ?_
          refine lv_iload_n hx hb dX12_speed_41 rfl (lv_at hl 1 rfl) ?_
          refine lv_imul hx hb dX12_speed_42 ?_
          refine lv_topi (fun x20 ex20 => ?_)
          refine lv_iconst (v := 5) hx hb dX12_speed_43 (by decide) ?_
          refine lv_iload_n hx hb dX12_speed_44 rfl (lv_at hl 2 rfl) ?_
          refine lv_imul hx hb dX12_speed_45 ?_
          refine lv_topi (fun x21 ex21 => ?_)
          refine lv_iadd hx hb dX12_speed_46 ?_
          refine lv_topi (fun x22 ex22 => ?_)
          refine lv_iload_n hx hb dX12_speed_47 rfl (lv_at hl 3 rfl) ?_
          refine lv_iadd hx hb dX12_speed_48 ?_
          refine lv_topi (fun x23 ex23 => ?_)
          refine lv_istore (lv' := [(5, .int x23), (0, .ref h0), (1, .int b), (2, .int angle), (3, .int band), (4, .int tenths)]) hx hb dX12_speed_49 hl (by decide) rfl (fun ls hl => ?_)
          refine lv_aload_n hx hb dX12_speed_51 rfl (lv_at hl 1 rfl) ?_
          refine va_get (D := E.1) (ci := 12) (v := .ref (q 20)) (C := RX12) (T := TX12) (N := 59) hx hb hts inX12 hown hK hP 0 rfl rfl 20 (by decide) fl45 (fun _ h9 => h9) rfl dX12_speed_52 ?_
          refine lv_iload hx hb dX12_speed_55 (lv_at hl 0 rfl) ?_
          have hi24 : vp_in x23 150 := by rw [ex23, ex22, ex20, ex21]; exact ix_sp b5 b10 b15
          refine va_iald hx hb hK hP 1 0 rfl rfl hi24 dX12_speed_57 ?_
          refine lv_istore (lv' := [(6, .int 0), (5, .int x23), (0, .ref h0), (1, .int b), (2, .int angle), (3, .int band), (4, .int tenths)]) hx hb dX12_speed_58 hl (by decide) rfl (fun ls hl => ?_)
          refine lv_aload_n hx hb dX12_speed_60 rfl (lv_at hl 2 rfl) ?_
          refine va_get (D := E.1) (ci := 12) (v := .ref (q 20)) (C := RX12) (T := TX12) (N := 59) hx hb hts inX12 hown hK hP 0 rfl rfl 20 (by decide) fl45 (fun _ h9 => h9) rfl dX12_speed_61 ?_
          refine lv_iload hx hb dX12_speed_64 (lv_at hl 1 rfl) ?_
          refine lv_iload hx hb dX12_speed_66 (lv_at hl 6 rfl) ?_
          refine va_iast hx hb hK hP hD hS 1 0 rfl rfl hi24 dX12_speed_68 (fun H locs hP hD hS => ?_)
          have hP : va_P E.1 vwCl [(h0, .inr (12, mO q)), (q 20, .inl (E.2 0, 150, .inl (upd (fun _ => 0) x23.toNatClampNeg tenths)))] H := hP
          have hD : va_D A [(h0, .inr (12, mO q)), (q 20, .inl (E.2 0, 150, .inl (upd (fun _ => 0) x23.toNatClampNeg tenths)))] := hD
          obtain ⟨f25, ef25⟩ : ∃ g : Nat → Int32, g = upd (fun _ => 0) x23.toNatClampNeg tenths := ⟨_, rfl⟩
          rw [← ef25] at hP hD
          refine lv_iload hx hb dX12_speed_69 (lv_at hl 0 rfl) ?_
          have hP9 := hP.sub (ws' := []) [] rfl
          have hD9 := hD.sub (ws' := []) [] (by decide) rfl
          exact W.iret (v := 0) hx hb hr (fun t ht hW => ⟨⟨0, (), rfl, (by first | (rw [b5, b10, b15, b19]; done) | (rw [b5, b10, b15, b19]; rfl)), by rw [ht]; exact hP9, hD9⟩, hS.F ht⟩) hS.2.2 dX12_speed_71
        · have b26 : inR tenths 0 40 = false := bz hw17 c18
          refine lv_bipush (v := (-2)) hx hb dX12_speed_36 (by decide) ?_
          have hP9 := hP.sub (ws' := []) [] rfl
          have hD9 := hD.sub (ws' := []) [] (by decide) rfl
          exact W.iret (v := (-2)) hx hb hr (fun t ht hW => ⟨⟨(-2), (), rfl, (by first | (rw [b5, b10, b15, b26]; done) | (rw [b5, b10, b15, b26]; rfl)), by rw [ht]; exact hP9, hD9⟩, hS.F ht⟩) hS.2.2 dX12_speed_38
set_option maxHeartbeats 4000000 in
set_option maxRecDepth 100000 in
theorem c_X12_water (l : Launch) (E : vE) (h0 : Nat) (q : Nat → Nat) (b : Int32) (litres : Int32) (sz : Nat) : Met l yX12_water wsX12_water ({ frames := 2, cells := 0, slots := 0, locals := 42 }) (pcW E [.ref h0, .int b, .int litres] sz [(h0, .inr (12, mO q)), (q 21, .inl (E.2 0, 6, .inl (fun _ => 0)))]) (va_Qi (fun (r : Int32) (_ : Unit) => r = cond (inR b 0 5 && inR litres 0 10000) 0 (-2)) (fun (_ : Unit) (t : State) => wB E (va_A [(h0, .inr (12, mO q)), (q 21, .inl (E.2 0, 6, .inl (fun _ => 0)))] sz) [] t) (va_A [(h0, .inr (12, mO q)), (q 21, .inl (E.2 0, 6, .inl (fun _ => 0)))] sz)) 0 0 (va_A [(h0, .inr (12, mO q)), (q 21, .inl (E.2 0, 6, .inl (fun _ => 0)))] sz) := by
  refine Met.ofW (cc := cX12_water) (maxL := 4) (ret := (some .int)) (by decide) rfl ?_
  intro p e s m args below meth c s₁ B hml hv
  obtain ⟨rfl, hsz, hP, hkn, hD0, hst⟩ := hv
  have hx := B.exec
  have hb := B.bytes
  have hr := B.returns
  have hts := atoms_spec (ws := wsX12_water) B.pre
  have hown : s.vm.findClass RX12 = some m.cls := findClass_of_methodNamed B.named
  have hlocks := B.notSynchronized
  subst hsz
  have hD := hD0.self (sz := s.heap.size)
  have hK := hkn.1
  have hAO := hkn.2.2
  generalize hAe : va_A [(h0, .inr (12, mO q)), (q 21, .inl (E.2 0, 6, .inl (fun _ => 0)))] s.heap.size = A at hD hst ⊢
  have hA : ∀ q : Nat, s.heap.size ≤ q → A q := fun q h => by rw [← hAe]; exact Or.inr h
  have hS : va_S A s.heap s.heap [] := va_S.rf
  have hP : va_P E.1 vwCl [(h0, .inr (12, mO q)), (q 21, .inl (E.2 0, 6, .inl (fun _ => 0)))] s.heap := hP
  have hl := lv_entry ([.ref h0, .int b, .int litres]) (n := 4) (Nat.le_of_ble_eq_true rfl)
  rw [lg_entry_eq]
  generalize (lg_sl ([.ref h0, .int b, .int litres]) ++ List.replicate (4 - (lg_sl ([.ref h0, .int b, .int litres])).length) Slot.unset).toArray = ls at hl ⊢
  have hl : lv_has ls 4 [(0, .ref h0), (1, .int b), (2, .int litres)] := hl
  have fl48 := hts (.fieldLink RX12 48 "BoatsHomeModel" "litres" "[I") (by decide +kernel)
  have inX12 : ∀ w ∈ u_ws RX12 TX12 59, w ∈ wsX12_water := by decide +kernel
  refine lv_iload_n hx hb dX12_water_0 rfl (lv_at hl 1 rfl) ?_
  have hPc := hP.sub (ws' := []) [] rfl
  have hDc := hD.sub (ws' := []) [] (by decide) rfl
  have hFc := va_free (wc := []) hD hS hA [] rfl
  refine va_calli (va_runS (As := [.int b]) (rest := []) ⟨hx, hb, hml, hown, hts⟩ (c_X12_isBoat l E b s.heap.size ) (va_cwS 1 hts gX12_water_X12_isBoat rfl rfl rfl (by decide +kernel) ⟨Nat.le_of_ble_eq_true rfl, Nat.le_of_ble_eq_true rfl⟩) ⟨pcW_blind, (pcW_pre hPc hkn hDc hst hS hFc)⟩ rfl rfl hl.1 rfl (lv_room (Nat.le_of_ble_eq_true rfl)) dX12_water_1 ⟨Nat.le_of_ble_eq_true rfl, Nat.le_of_ble_eq_true rfl⟩) hS (fun q _ h => hFc q h) hFc (fun r1 u t H1 locs ht hvm hw2 hB hz1 hk1 hS => ?_)
  obtain ⟨hP1, hD1⟩ := hB
  rw [ht] at hP1
  try dsimp only at hw2
  obtain ⟨hP, hD⟩ := va_join (wr := [(h0, .inr (12, mO q)), (q 21, .inl (E.2 0, 6, .inl (fun _ => 0)))]) (w1 := []) hP hD [] [0, 1] rfl rfl (by decide) (by decide) hk1 hFc hP1 hD1
  generalize H1 = H at hP hS ⊢
  have hP : va_P E.1 vwCl [(h0, .inr (12, mO q)), (q 21, .inl (E.2 0, 6, .inl (fun _ => 0)))] H := hP
  have hD : va_D A [(h0, .inr (12, mO q)), (q 21, .inl (E.2 0, 6, .inl (fun _ => 0)))] := hD
  refine lv_if_eq (tgt := 18) hx hb dX12_water_4 (by decide) (fun c3 => ?_) (fun c3 => ?_)
  · have b4 : inR b 0 5 = false := bz hw2 c3
    refine lv_bipush (v := (-2)) hx hb dX12_water_18 (by decide) ?_
    have hP9 := hP.sub (ws' := []) [] rfl
    have hD9 := hD.sub (ws' := []) [] (by decide) rfl
    exact W.iret (v := (-2)) hx hb hr (fun t ht hW => ⟨⟨(-2), (), rfl, (by first | (rw [b4]; done) | (rw [b4]; rfl)), by rw [ht]; exact hP9, hD9⟩, hS.F ht⟩) hS.2.2 dX12_water_20
  · have b5 : inR b 0 5 = true := bn hw2 c3
    refine lv_iload_n hx hb dX12_water_7 rfl (lv_at hl 2 rfl) ?_
    refine lv_iconst (v := 0) hx hb dX12_water_8 (by decide) ?_
    refine lv_sipush (v := 10000) hx hb dX12_water_9 (by decide) ?_
    have hPc := hP.sub (ws' := []) [] rfl
    have hDc := hD.sub (ws' := []) [] (by decide) rfl
    have hFc := va_free (wc := []) hD hS hA [] rfl
    refine va_calli (va_runS (As := [.int litres, .int 0, .int 10000]) (rest := []) ⟨hx, hb, hml, hown, hts⟩ (c_X12_in l E litres 0 10000 H.size ) (va_cwS 3 hts gX12_water_X12_in rfl rfl rfl (by decide +kernel) ⟨Nat.le_of_ble_eq_true rfl, Nat.le_of_ble_eq_true rfl⟩) ⟨pcW_blind, (pcW_pre hPc hkn hDc hst hS hFc)⟩ rfl rfl hl.1 rfl (lv_room (Nat.le_of_ble_eq_true rfl)) dX12_water_12 ⟨Nat.le_of_ble_eq_true rfl, Nat.le_of_ble_eq_true rfl⟩) hS (fun q _ h => hFc q h) hFc (fun r6 u t H1 locs ht hvm hw7 hB hz1 hk1 hS => ?_)
    obtain ⟨hP1, hD1⟩ := hB
    rw [ht] at hP1
    try dsimp only at hw7
    obtain ⟨hP, hD⟩ := va_join (wr := [(h0, .inr (12, mO q)), (q 21, .inl (E.2 0, 6, .inl (fun _ => 0)))]) (w1 := []) hP hD [] [0, 1] rfl rfl (by decide) (by decide) hk1 hFc hP1 hD1
    generalize H1 = H at hP hS ⊢
    have hP : va_P E.1 vwCl [(h0, .inr (12, mO q)), (q 21, .inl (E.2 0, 6, .inl (fun _ => 0)))] H := hP
    have hD : va_D A [(h0, .inr (12, mO q)), (q 21, .inl (E.2 0, 6, .inl (fun _ => 0)))] := hD
    refine lv_if_ne (tgt := 21) hx hb dX12_water_15 (by decide) (fun c8 => ?_) (fun c8 => ?_)
    · have b9 : inR litres 0 10000 = true := bn hw7 c8
      refine lv_aload_n hx hb dX12_water_21 rfl (lv_at hl 0 rfl) ?_
      refine va_get (D := E.1) (ci := 12) (v := .ref (q 21)) (C := RX12) (T := TX12) (N := 59) hx hb hts inX12 hown hK hP 0 rfl rfl 21 (by decide) fl48 (fun _ h9 => h9) rfl dX12_water_22 ?_
      refine lv_iload_n hx hb dX12_water_25 rfl (lv_at hl 1 rfl) ?_
      have hi10 : vp_in b 6 := inR_in (by decide) b5
      refine va_iald hx hb hK hP 1 0 rfl rfl hi10 dX12_water_26 ?_
      refine lv_istore_n (lv' := [(3, .int 0), (0, .ref h0), (1, .int b), (2, .int litres)]) hx hb dX12_water_27 rfl hl (by decide) rfl (fun ls hl => ?_)
      refine lv_aload_n hx hb dX12_water_28 rfl (lv_at hl 1 rfl) ?_
      refine va_get (D := E.1) (ci := 12) (v := .ref (q 21)) (C := RX12) (T := TX12) (N := 59) hx hb hts inX12 hown hK hP 0 rfl rfl 21 (by decide) fl48 (fun _ h9 => h9) rfl dX12_water_29 ?_
      refine lv_iload_n hx hb dX12_water_32 rfl (lv_at hl 2 rfl) ?_
      refine lv_iload_n hx hb dX12_water_33 rfl (lv_at hl 3 rfl) ?_
      refine va_iast hx hb hK hP hD hS 1 0 rfl rfl hi10 dX12_water_34 (fun H locs hP hD hS => ?_)
      have hP : va_P E.1 vwCl [(h0, .inr (12, mO q)), (q 21, .inl (E.2 0, 6, .inl (upd (fun _ => 0) b.toNatClampNeg litres)))] H := hP
      have hD : va_D A [(h0, .inr (12, mO q)), (q 21, .inl (E.2 0, 6, .inl (upd (fun _ => 0) b.toNatClampNeg litres)))] := hD
      obtain ⟨f11, ef11⟩ : ∃ g : Nat → Int32, g = upd (fun _ => 0) b.toNatClampNeg litres := ⟨_, rfl⟩
      rw [← ef11] at hP hD
      refine lv_iload_n hx hb dX12_water_35 rfl (lv_at hl 0 rfl) ?_
      have hP9 := hP.sub (ws' := []) [] rfl
      have hD9 := hD.sub (ws' := []) [] (by decide) rfl
      exact W.iret (v := 0) hx hb hr (fun t ht hW => ⟨⟨0, (), rfl, (by first | (rw [b5, b9]; done) | (rw [b5, b9]; rfl)), by rw [ht]; exact hP9, hD9⟩, hS.F ht⟩) hS.2.2 dX12_water_36
    · have b12 : inR litres 0 10000 = false := bz hw7 c8
      refine lv_bipush (v := (-2)) hx hb dX12_water_18 (by decide) ?_
      have hP9 := hP.sub (ws' := []) [] rfl
      have hD9 := hD.sub (ws' := []) [] (by decide) rfl
      exact W.iret (v := (-2)) hx hb hr (fun t ht hW => ⟨⟨(-2), (), rfl, (by first | (rw [b5, b12]; done) | (rw [b5, b12]; rfl)), by rw [ht]; exact hP9, hD9⟩, hS.F ht⟩) hS.2.2 dX12_water_20
set_option maxHeartbeats 4000000 in
set_option maxRecDepth 100000 in
theorem c_X12_lasts (l : Launch) (E : vE) (h0 : Nat) (q : Nat → Nat) (fl : Nat → Int32) (b : Int32) (part : Int32) (watches : Int32) (sz : Nat) (hfl : ∀ k, k < 24 → fl k = 10000) : Met l yX12_lasts wsX12_lasts ({ frames := 2, cells := 0, slots := 0, locals := 42 }) (pcW E [.ref h0, .int b, .int part, .int watches] sz [(h0, .inr (12, mO q)), (q 22, .inl (E.2 0, 24, .inl fl))]) (va_Qi (fun (r : Int32) (_ : Unit) => r = cond (inR b 0 5 && inR part 0 3 && inR watches 0 10000) 10000 (-2)) (fun (_ : Unit) (t : State) => wB E (va_A [(h0, .inr (12, mO q)), (q 22, .inl (E.2 0, 24, .inl fl))] sz) [] t) (va_A [(h0, .inr (12, mO q)), (q 22, .inl (E.2 0, 24, .inl fl))] sz)) 0 0 (va_A [(h0, .inr (12, mO q)), (q 22, .inl (E.2 0, 24, .inl fl))] sz) := by
  refine Met.ofW (cc := cX12_lasts) (maxL := 5) (ret := (some .int)) (by decide) rfl ?_
  intro p e s m args below meth c s₁ B hml hv
  obtain ⟨rfl, hsz, hP, hkn, hD0, hst⟩ := hv
  have hx := B.exec
  have hb := B.bytes
  have hr := B.returns
  have hts := atoms_spec (ws := wsX12_lasts) B.pre
  have hown : s.vm.findClass RX12 = some m.cls := findClass_of_methodNamed B.named
  have hlocks := B.notSynchronized
  subst hsz
  have hD := hD0.self (sz := s.heap.size)
  have hK := hkn.1
  have hAO := hkn.2.2
  generalize hAe : va_A [(h0, .inr (12, mO q)), (q 22, .inl (E.2 0, 24, .inl fl))] s.heap.size = A at hD hst ⊢
  have hA : ∀ q : Nat, s.heap.size ≤ q → A q := fun q h => by rw [← hAe]; exact Or.inr h
  have hS : va_S A s.heap s.heap [] := va_S.rf
  have hP : va_P E.1 vwCl [(h0, .inr (12, mO q)), (q 22, .inl (E.2 0, 24, .inl fl))] s.heap := hP
  have hl := lv_entry ([.ref h0, .int b, .int part, .int watches]) (n := 5) (Nat.le_of_ble_eq_true rfl)
  rw [lg_entry_eq]
  generalize (lg_sl ([.ref h0, .int b, .int part, .int watches]) ++ List.replicate (5 - (lg_sl ([.ref h0, .int b, .int part, .int watches])).length) Slot.unset).toArray = ls at hl ⊢
  have hl : lv_has ls 5 [(0, .ref h0), (1, .int b), (2, .int part), (3, .int watches)] := hl
  have fl51 := hts (.fieldLink RX12 51 "BoatsHomeModel" "lasts" "[I") (by decide +kernel)
  have inX12 : ∀ w ∈ u_ws RX12 TX12 59, w ∈ wsX12_lasts := by decide +kernel
  refine lv_iload_n hx hb dX12_lasts_0 rfl (lv_at hl 1 rfl) ?_
  have hPc := hP.sub (ws' := []) [] rfl
  have hDc := hD.sub (ws' := []) [] (by decide) rfl
  have hFc := va_free (wc := []) hD hS hA [] rfl
  refine va_calli (va_runS (As := [.int b]) (rest := []) ⟨hx, hb, hml, hown, hts⟩ (c_X12_isBoat l E b s.heap.size ) (va_cwS 1 hts gX12_lasts_X12_isBoat rfl rfl rfl (by decide +kernel) ⟨Nat.le_of_ble_eq_true rfl, Nat.le_of_ble_eq_true rfl⟩) ⟨pcW_blind, (pcW_pre hPc hkn hDc hst hS hFc)⟩ rfl rfl hl.1 rfl (lv_room (Nat.le_of_ble_eq_true rfl)) dX12_lasts_1 ⟨Nat.le_of_ble_eq_true rfl, Nat.le_of_ble_eq_true rfl⟩) hS (fun q _ h => hFc q h) hFc (fun r1 u t H1 locs ht hvm hw2 hB hz1 hk1 hS => ?_)
  obtain ⟨hP1, hD1⟩ := hB
  rw [ht] at hP1
  try dsimp only at hw2
  obtain ⟨hP, hD⟩ := va_join (wr := [(h0, .inr (12, mO q)), (q 22, .inl (E.2 0, 24, .inl fl))]) (w1 := []) hP hD [] [0, 1] rfl rfl (by decide) (by decide) hk1 hFc hP1 hD1
  generalize H1 = H at hP hS ⊢
  have hP : va_P E.1 vwCl [(h0, .inr (12, mO q)), (q 22, .inl (E.2 0, 24, .inl fl))] H := hP
  have hD : va_D A [(h0, .inr (12, mO q)), (q 22, .inl (E.2 0, 24, .inl fl))] := hD
  refine lv_if_eq (tgt := 27) hx hb dX12_lasts_4 (by decide) (fun c3 => ?_) (fun c3 => ?_)
  · have b4 : inR b 0 5 = false := bz hw2 c3
    refine lv_bipush (v := (-2)) hx hb dX12_lasts_27 (by decide) ?_
    have hP9 := hP.sub (ws' := []) [] rfl
    have hD9 := hD.sub (ws' := []) [] (by decide) rfl
    exact W.iret (v := (-2)) hx hb hr (fun t ht hW => ⟨⟨(-2), (), rfl, (by first | (rw [b4]; done) | (rw [b4]; rfl)), by rw [ht]; exact hP9, hD9⟩, hS.F ht⟩) hS.2.2 dX12_lasts_29
  · have b5 : inR b 0 5 = true := bn hw2 c3
    refine lv_iload_n hx hb dX12_lasts_7 rfl (lv_at hl 2 rfl) ?_
    refine lv_iconst (v := 0) hx hb dX12_lasts_8 (by decide) ?_
    refine lv_iconst (v := 3) hx hb dX12_lasts_9 (by decide) ?_
    have hPc := hP.sub (ws' := []) [] rfl
    have hDc := hD.sub (ws' := []) [] (by decide) rfl
    have hFc := va_free (wc := []) hD hS hA [] rfl
    refine va_calli (va_runS (As := [.int part, .int 0, .int 3]) (rest := []) ⟨hx, hb, hml, hown, hts⟩ (c_X12_in l E part 0 3 H.size ) (va_cwS 3 hts gX12_lasts_X12_in rfl rfl rfl (by decide +kernel) ⟨Nat.le_of_ble_eq_true rfl, Nat.le_of_ble_eq_true rfl⟩) ⟨pcW_blind, (pcW_pre hPc hkn hDc hst hS hFc)⟩ rfl rfl hl.1 rfl (lv_room (Nat.le_of_ble_eq_true rfl)) dX12_lasts_10 ⟨Nat.le_of_ble_eq_true rfl, Nat.le_of_ble_eq_true rfl⟩) hS (fun q _ h => hFc q h) hFc (fun r6 u t H1 locs ht hvm hw7 hB hz1 hk1 hS => ?_)
    obtain ⟨hP1, hD1⟩ := hB
    rw [ht] at hP1
    try dsimp only at hw7
    obtain ⟨hP, hD⟩ := va_join (wr := [(h0, .inr (12, mO q)), (q 22, .inl (E.2 0, 24, .inl fl))]) (w1 := []) hP hD [] [0, 1] rfl rfl (by decide) (by decide) hk1 hFc hP1 hD1
    generalize H1 = H at hP hS ⊢
    have hP : va_P E.1 vwCl [(h0, .inr (12, mO q)), (q 22, .inl (E.2 0, 24, .inl fl))] H := hP
    have hD : va_D A [(h0, .inr (12, mO q)), (q 22, .inl (E.2 0, 24, .inl fl))] := hD
    refine lv_if_eq (tgt := 27) hx hb dX12_lasts_13 (by decide) (fun c8 => ?_) (fun c8 => ?_)
    · have b9 : inR part 0 3 = false := bz hw7 c8
      refine lv_bipush (v := (-2)) hx hb dX12_lasts_27 (by decide) ?_
      have hP9 := hP.sub (ws' := []) [] rfl
      have hD9 := hD.sub (ws' := []) [] (by decide) rfl
      exact W.iret (v := (-2)) hx hb hr (fun t ht hW => ⟨⟨(-2), (), rfl, (by first | (rw [b5, b9]; done) | (rw [b5, b9]; rfl)), by rw [ht]; exact hP9, hD9⟩, hS.F ht⟩) hS.2.2 dX12_lasts_29
    · have b10 : inR part 0 3 = true := bn hw7 c8
      refine lv_iload_n hx hb dX12_lasts_16 rfl (lv_at hl 3 rfl) ?_
      refine lv_iconst (v := 0) hx hb dX12_lasts_17 (by decide) ?_
      refine lv_sipush (v := 10000) hx hb dX12_lasts_18 (by decide) ?_
      have hPc := hP.sub (ws' := []) [] rfl
      have hDc := hD.sub (ws' := []) [] (by decide) rfl
      have hFc := va_free (wc := []) hD hS hA [] rfl
      refine va_calli (va_runS (As := [.int watches, .int 0, .int 10000]) (rest := []) ⟨hx, hb, hml, hown, hts⟩ (c_X12_in l E watches 0 10000 H.size ) (va_cwS 3 hts gX12_lasts_X12_in rfl rfl rfl (by decide +kernel) ⟨Nat.le_of_ble_eq_true rfl, Nat.le_of_ble_eq_true rfl⟩) ⟨pcW_blind, (pcW_pre hPc hkn hDc hst hS hFc)⟩ rfl rfl hl.1 rfl (lv_room (Nat.le_of_ble_eq_true rfl)) dX12_lasts_21 ⟨Nat.le_of_ble_eq_true rfl, Nat.le_of_ble_eq_true rfl⟩) hS (fun q _ h => hFc q h) hFc (fun r11 u t H1 locs ht hvm hw12 hB hz1 hk1 hS => ?_)
      obtain ⟨hP1, hD1⟩ := hB
      rw [ht] at hP1
      try dsimp only at hw12
      obtain ⟨hP, hD⟩ := va_join (wr := [(h0, .inr (12, mO q)), (q 22, .inl (E.2 0, 24, .inl fl))]) (w1 := []) hP hD [] [0, 1] rfl rfl (by decide) (by decide) hk1 hFc hP1 hD1
      generalize H1 = H at hP hS ⊢
      have hP : va_P E.1 vwCl [(h0, .inr (12, mO q)), (q 22, .inl (E.2 0, 24, .inl fl))] H := hP
      have hD : va_D A [(h0, .inr (12, mO q)), (q 22, .inl (E.2 0, 24, .inl fl))] := hD
      refine lv_if_ne (tgt := 30) hx hb dX12_lasts_24 (by decide) (fun c13 => ?_) (fun c13 => ?_)
      · have b14 : inR watches 0 10000 = true := bn hw12 c13
        refine lv_aload_n hx hb dX12_lasts_30 rfl (lv_at hl 0 rfl) ?_
        refine va_get (D := E.1) (ci := 12) (v := .ref (q 22)) (C := RX12) (T := TX12) (N := 59) hx hb hts inX12 hown hK hP 0 rfl rfl 22 (by decide) fl51 (fun _ h9 => h9) rfl dX12_lasts_31 ?_
        refine lv_iconst (v := 4) hx hb dX12_lasts_34 (by decide) ?_
        refine lv_iload_n hx hb dX12_lasts_35 rfl (lv_at hl 1 rfl) ?_
        refine lv_imul hx hb dX12_lasts_36 ?_
        refine lv_topi (fun x15 ex15 => ?_)
        refine lv_iload_n hx hb dX12_lasts_37 rfl (lv_at hl 2 rfl) ?_
        refine lv_iadd hx hb dX12_lasts_38 ?_
        refine lv_topi (fun x16 ex16 => ?_)
        have hi17 : vp_in x16 24 := by rw [ex16, ex15]; exact ixB b5 (a := 5) (by decide) b10 (b := 3) (by decide) (M := 4) rfl (by decide) (by decide)
        refine va_iald hx hb hK hP 1 0 rfl rfl hi17 dX12_lasts_39 ?_
        refine lv_topi (fun x18 ex18 => ?_)
        obtain rfl : x18 = 10000 := ex18.trans (hfl _ (Nat.not_le.mp fun q => hi17 (Or.inr q)))
        refine lv_istore (lv' := [(4, .int 10000), (0, .ref h0), (1, .int b), (2, .int part), (3, .int watches)]) hx hb dX12_lasts_40 hl (by decide) rfl (fun ls hl => ?_)
        refine lv_aload_n hx hb dX12_lasts_42 rfl (lv_at hl 1 rfl) ?_
        refine va_get (D := E.1) (ci := 12) (v := .ref (q 22)) (C := RX12) (T := TX12) (N := 59) hx hb hts inX12 hown hK hP 0 rfl rfl 22 (by decide) fl51 (fun _ h9 => h9) rfl dX12_lasts_43 ?_
        refine lv_iconst (v := 4) hx hb dX12_lasts_46 (by decide) ?_
        refine lv_iload_n hx hb dX12_lasts_47 rfl (lv_at hl 2 rfl) ?_
        refine lv_imul hx hb dX12_lasts_48 ?_
        refine lv_topi (fun x19 ex19 => ?_)
        refine lv_iload_n hx hb dX12_lasts_49 rfl (lv_at hl 3 rfl) ?_
        refine lv_iadd hx hb dX12_lasts_50 ?_
        refine lv_topi (fun x20 ex20 => ?_)
        refine lv_iload_n hx hb dX12_lasts_51 rfl (lv_at hl 4 rfl) ?_
        have hi21 : vp_in x20 24 := by rw [ex20, ex19]; exact ixB b5 (a := 5) (by decide) b10 (b := 3) (by decide) (M := 4) rfl (by decide) (by decide)
        refine va_iast hx hb hK hP hD hS 1 0 rfl rfl hi21 dX12_lasts_52 (fun H locs hP hD hS => ?_)
        have hP : va_P E.1 vwCl [(h0, .inr (12, mO q)), (q 22, .inl (E.2 0, 24, .inl (upd fl x20.toNatClampNeg watches)))] H := hP
        have hD : va_D A [(h0, .inr (12, mO q)), (q 22, .inl (E.2 0, 24, .inl (upd fl x20.toNatClampNeg watches)))] := hD
        obtain ⟨f22, ef22⟩ : ∃ g : Nat → Int32, g = upd fl x20.toNatClampNeg watches := ⟨_, rfl⟩
        rw [← ef22] at hP hD
        refine lv_iload hx hb dX12_lasts_53 (lv_at hl 0 rfl) ?_
        refine lv_iconst (v := (-1)) hx hb dX12_lasts_55 (by decide) ?_
        refine lv_icmp_ne (tgt := 63) hx hb dX12_lasts_56 (by decide) (fun _ => ?_) (fun c9 => absurd c9 (by decide))
        refine lv_iload hx hb dX12_lasts_63 (lv_at hl 0 rfl) ?_
        have hP9 := hP.sub (ws' := []) [] rfl
        have hD9 := hD.sub (ws' := []) [] (by decide) rfl
        exact W.iret (v := 10000) hx hb hr (fun t ht hW => ⟨⟨10000, (), rfl, (by first | (rw [b5, b10, b14]; done) | (rw [b5, b10, b14]; rfl)), by rw [ht]; exact hP9, hD9⟩, hS.F ht⟩) hS.2.2 dX12_lasts_65
      · have b23 : inR watches 0 10000 = false := bz hw12 c13
        refine lv_bipush (v := (-2)) hx hb dX12_lasts_27 (by decide) ?_
        have hP9 := hP.sub (ws' := []) [] rfl
        have hD9 := hD.sub (ws' := []) [] (by decide) rfl
        exact W.iret (v := (-2)) hx hb hr (fun t ht hW => ⟨⟨(-2), (), rfl, (by first | (rw [b5, b10, b23]; done) | (rw [b5, b10, b23]; rfl)), by rw [ht]; exact hP9, hD9⟩, hS.F ht⟩) hS.2.2 dX12_lasts_29
set_option maxHeartbeats 4000000 in
set_option maxRecDepth 100000 in
theorem c_X12_fault (l : Launch) (E : vE) (h0 : Nat) (q : Nat → Nat) (what : Int32) (sz : Nat) : Met l yX12_fault wsX12_fault ({ frames := 2, cells := 0, slots := 0, locals := 42 }) (pcW E [.ref h0, .int what] sz [(h0, .inr (12, mO q))]) (va_Qi (fun (r : Int32) (_ : Unit) => r = if what = 0 then 0 else -1) (fun (_ : Unit) (t : State) => wB E (va_A [(h0, .inr (12, mO q))] sz) [] t) (va_A [(h0, .inr (12, mO q))] sz)) 0 0 (va_A [(h0, .inr (12, mO q))] sz) := by
  refine Met.ofW (cc := cX12_fault) (maxL := 2) (ret := (some .int)) (by decide) rfl ?_
  intro p e s m args below meth c s₁ B hml hv
  obtain ⟨rfl, hsz, hP, hkn, hD0, hst⟩ := hv
  have hx := B.exec
  have hb := B.bytes
  have hr := B.returns
  have hts := atoms_spec (ws := wsX12_fault) B.pre
  have hown : s.vm.findClass RX12 = some m.cls := findClass_of_methodNamed B.named
  have hlocks := B.notSynchronized
  subst hsz
  have hD := hD0.self (sz := s.heap.size)
  have hK := hkn.1
  have hAO := hkn.2.2
  generalize hAe : va_A [(h0, .inr (12, mO q))] s.heap.size = A at hD hst ⊢
  have hA : ∀ q : Nat, s.heap.size ≤ q → A q := fun q h => by rw [← hAe]; exact Or.inr h
  have hS : va_S A s.heap s.heap [] := va_S.rf
  have hP : va_P E.1 vwCl [(h0, .inr (12, mO q))] s.heap := hP
  have hl := lv_entry ([.ref h0, .int what]) (n := 2) (Nat.le_of_ble_eq_true rfl)
  rw [lg_entry_eq]
  generalize (lg_sl ([.ref h0, .int what]) ++ List.replicate (2 - (lg_sl ([.ref h0, .int what])).length) Slot.unset).toArray = ls at hl ⊢
  have hl : lv_has ls 2 [(0, .ref h0), (1, .int what)] := hl
  have fl13 := hts (.fieldLink RX12 13 "BoatsHomeModel" "faultPlace" "I") (by decide +kernel)
  have fl200 := hts (.fieldLink RX12 200 "BoatsHomeModel" "faultKind" "I") (by decide +kernel)
  have inX12 : ∀ w ∈ u_ws RX12 TX12 59, w ∈ wsX12_fault := by decide +kernel
  refine lv_iload_n hx hb dX12_fault_0 rfl (lv_at hl 1 rfl) ?_
  refine lv_if_ne (tgt := 11) hx hb dX12_fault_1 (by decide) (fun c1 => ?_) (fun c1 => ?_)
  · refine lv_iload_n hx hb dX12_fault_11 rfl (lv_at hl 1 rfl) ?_
    refine lv_iconst (v := 1) hx hb dX12_fault_12 (by decide) ?_
    refine lv_icmp_ne (tgt := 23) hx hb dX12_fault_13 (by decide) (fun c2 => ?_) (fun c2 => ?_)
    · refine lv_iconst (v := (-1)) hx hb dX12_fault_23 (by decide) ?_
      have hP9 := hP.sub (ws' := []) [] rfl
      have hD9 := hD.sub (ws' := []) [] (by decide) rfl
      exact W.iret (v := (-1)) hx hb hr (fun t ht hW => ⟨⟨(-1), (), rfl, (by rw [if_neg c1]), by rw [ht]; exact hP9, hD9⟩, hS.F ht⟩) hS.2.2 dX12_fault_24
    · refine lv_aload_n hx hb dX12_fault_16 rfl (lv_at hl 0 rfl) ?_
      refine va_get (D := E.1) (ci := 12) (v := .int (-1)) (C := RX12) (T := TX12) (N := 59) hx hb hts inX12 hown hK hP 0 rfl rfl 9 (by decide) fl13 (fun _ h9 => h9) rfl dX12_fault_17 ?_
      refine lv_goto (tgt := 24) hx hb dX12_fault_20 (by decide) ?_
      have hP9 := hP.sub (ws' := []) [] rfl
      have hD9 := hD.sub (ws' := []) [] (by decide) rfl
      exact W.iret (v := (-1)) hx hb hr (fun t ht hW => ⟨⟨(-1), (), rfl, (by rw [if_neg c1]), by rw [ht]; exact hP9, hD9⟩, hS.F ht⟩) hS.2.2 dX12_fault_24
  · refine lv_aload_n hx hb dX12_fault_4 rfl (lv_at hl 0 rfl) ?_
    refine va_get (D := E.1) (ci := 12) (v := .int 0) (C := RX12) (T := TX12) (N := 59) hx hb hts inX12 hown hK hP 0 rfl rfl 8 (by decide) fl200 (fun _ h9 => h9) rfl dX12_fault_5 ?_
    refine lv_goto (tgt := 24) hx hb dX12_fault_8 (by decide) ?_
    have hP9 := hP.sub (ws' := []) [] rfl
    have hD9 := hD.sub (ws' := []) [] (by decide) rfl
    exact W.iret (v := 0) hx hb hr (fun t ht hW => ⟨⟨0, (), rfl, (by rw [if_pos c1]), by rw [ht]; exact hP9, hD9⟩, hS.F ht⟩) hS.2.2 dX12_fault_24
set_option maxHeartbeats 4000000 in
set_option maxRecDepth 100000 in
theorem c_X12_isCovered (l : Launch) (E : vE) (h0 : Nat) (q : Nat → Nat) (b : Int32) (place : Int32) (day : Int32) (crew : Int32) (force : Int32) (fm : Nat → Int32) (sz : Nat) (hb5 : inR b 0 5 = true) (hc : inR crew 0 9 = true) (hf : inR force 0 9 = true) (hfm : ∀ k, k < 7 → fm k = 9) : Met l yX12_isCovered wsX12_isCovered ({ frames := 0, cells := 0, slots := 0, locals := 0 }) (pcW E [.ref h0, .int b, .int place, .int day, .int crew, .int force] sz [(h0, .inr (12, mO q)), (q 14, .inl (E.2 0, 7, .inl (fun _ => 0))), (q 15, .inl (E.2 0, 7, .inl fm)), (q 13, .inl (E.2 0, 7, .inl (fun _ => 0)))]) (va_Qi (fun (r : Int32) (_ : Unit) => r = 1) (fun (_ : Unit) (t : State) => wB E (va_A [(h0, .inr (12, mO q)), (q 14, .inl (E.2 0, 7, .inl (fun _ => 0))), (q 15, .inl (E.2 0, 7, .inl fm)), (q 13, .inl (E.2 0, 7, .inl (fun _ => 0)))] sz) [] t) (va_A [(h0, .inr (12, mO q)), (q 14, .inl (E.2 0, 7, .inl (fun _ => 0))), (q 15, .inl (E.2 0, 7, .inl fm)), (q 13, .inl (E.2 0, 7, .inl (fun _ => 0)))] sz)) 0 0 (va_A [(h0, .inr (12, mO q)), (q 14, .inl (E.2 0, 7, .inl (fun _ => 0))), (q 15, .inl (E.2 0, 7, .inl fm)), (q 13, .inl (E.2 0, 7, .inl (fun _ => 0)))] sz) := by
  refine Met.ofW (cc := cX12_isCovered) (maxL := 13) (ret := (some .boolean)) (by decide) rfl ?_
  intro p e s m args below meth c s₁ B hml hv
  obtain ⟨rfl, hsz, hP, hkn, hD0, hst⟩ := hv
  have hx := B.exec
  have hb := B.bytes
  have hr := B.returns
  have hts := atoms_spec (ws := wsX12_isCovered) B.pre
  have hown : s.vm.findClass RX12 = some m.cls := findClass_of_methodNamed B.named
  have hlocks := B.notSynchronized
  subst hsz
  have hD := hD0.self (sz := s.heap.size)
  have hK := hkn.1
  have hAO := hkn.2.2
  generalize hAe : va_A [(h0, .inr (12, mO q)), (q 14, .inl (E.2 0, 7, .inl (fun _ => 0))), (q 15, .inl (E.2 0, 7, .inl fm)), (q 13, .inl (E.2 0, 7, .inl (fun _ => 0)))] s.heap.size = A at hD hst ⊢
  have hA : ∀ q : Nat, s.heap.size ≤ q → A q := fun q h => by rw [← hAe]; exact Or.inr h
  have hS : va_S A s.heap s.heap [] := va_S.rf
  have hP : va_P E.1 vwCl [(h0, .inr (12, mO q)), (q 14, .inl (E.2 0, 7, .inl (fun _ => 0))), (q 15, .inl (E.2 0, 7, .inl fm)), (q 13, .inl (E.2 0, 7, .inl (fun _ => 0)))] s.heap := hP
  have hl := lv_entry ([.ref h0, .int b, .int place, .int day, .int crew, .int force]) (n := 13) (Nat.le_of_ble_eq_true rfl)
  rw [lg_entry_eq]
  generalize (lg_sl ([.ref h0, .int b, .int place, .int day, .int crew, .int force]) ++ List.replicate (13 - (lg_sl ([.ref h0, .int b, .int place, .int day, .int crew, .int force])).length) Slot.unset).toArray = ls at hl ⊢
  have hl : lv_has ls 13 [(0, .ref h0), (1, .int b), (2, .int place), (3, .int day), (4, .int crew), (5, .int force)] := hl
  have fl24 := hts (.fieldLink RX12 24 "BoatsHomeModel" "boxes" "[I") (by decide +kernel)
  have fl27 := hts (.fieldLink RX12 27 "BoatsHomeModel" "boxMany" "[I") (by decide +kernel)
  have fl30 := hts (.fieldLink RX12 30 "BoatsHomeModel" "minCrew" "[I") (by decide +kernel)
  have fl33 := hts (.fieldLink RX12 33 "BoatsHomeModel" "maxForce" "[I") (by decide +kernel)
  have inX12 : ∀ w ∈ u_ws RX12 TX12 59, w ∈ wsX12_isCovered := by decide +kernel
  refine lv_iload hx hb dX12_isCovered_0 (lv_at hl 4 rfl) ?_
  refine lv_aload_n hx hb dX12_isCovered_2 rfl (lv_at hl 0 rfl) ?_
  refine va_get (D := E.1) (ci := 12) (v := .ref (q 14)) (C := RX12) (T := TX12) (N := 59) hx hb hts inX12 hown hK hP 0 rfl rfl 14 (by decide) fl30 (fun _ h9 => h9) rfl dX12_isCovered_3 ?_
  refine lv_iload_n hx hb dX12_isCovered_6 rfl (lv_at hl 1 rfl) ?_
  have hi1 : vp_in b 7 := by have := inR_in (n := 6) (by decide) hb5; rw [vp_in_iff] at this ⊢; omega
  refine va_iald hx hb hK hP 1 0 rfl rfl hi1 dX12_isCovered_7 ?_
  refine lv_icmp_lt (tgt := 22) hx hb dX12_isCovered_8 (by decide) (fun c9 => absurd c9 (Int32.not_lt.mpr (inR_t.mp hc).1)) (fun c9 => ?_)
  refine lv_iload hx hb dX12_isCovered_11 (lv_at hl 5 rfl) ?_
  refine lv_aload_n hx hb dX12_isCovered_13 rfl (lv_at hl 0 rfl) ?_
  refine va_get (D := E.1) (ci := 12) (v := .ref (q 15)) (C := RX12) (T := TX12) (N := 59) hx hb hts inX12 hown hK hP 0 rfl rfl 15 (by decide) fl33 (fun _ h9 => h9) rfl dX12_isCovered_14 ?_
  refine lv_iload_n hx hb dX12_isCovered_17 rfl (lv_at hl 1 rfl) ?_
  refine va_iald hx hb hK hP 2 0 rfl rfl hi1 dX12_isCovered_18 ?_
  refine lv_topi (fun x2 ex2 => ?_)
  obtain rfl : x2 = 9 := ex2.trans (hfm _ (Nat.not_le.mp fun q => hi1 (Or.inr q)))
  refine lv_icmp_le (tgt := 24) hx hb dX12_isCovered_19 (by decide) (fun c9 => ?_) (fun c9 => absurd c9 (fun h => h (inR_t.mp hf).2))
  refine lv_iload_n hx hb dX12_isCovered_24 rfl (lv_at hl 3 rfl) ?_
  refine lv_sipush (v := 360) hx hb dX12_isCovered_25 (by decide) ?_
  refine lv_irem hx hb dX12_isCovered_28 (by decide) ?_
  refine lv_topi (fun x3 ex3 => ?_)
  refine lv_istore (lv' := [(6, .int x3), (0, .ref h0), (1, .int b), (2, .int place), (3, .int day), (4, .int crew), (5, .int force)]) hx hb dX12_isCovered_29 hl (by decide) rfl (fun ls hl => ?_)
  refine lv_bipush (v := 72) hx hb dX12_isCovered_31 (by decide) ?_
  refine lv_iload_n hx hb dX12_isCovered_33 rfl (lv_at hl 2 rfl) ?_
  refine lv_imul hx hb dX12_isCovered_34 ?_
  refine lv_topi (fun x4 ex4 => ?_)
  refine lv_istore (lv' := [(7, .int x4), (6, .int x3), (0, .ref h0), (1, .int b), (2, .int place), (3, .int day), (4, .int crew), (5, .int force)]) hx hb dX12_isCovered_35 hl (by decide) rfl (fun ls hl => ?_)
  refine lv_iload hx hb dX12_isCovered_37 (lv_at hl 0 rfl) ?_
  refine lv_bipush (v := 6) hx hb dX12_isCovered_39 (by decide) ?_
  refine lv_bipush (v := 12) hx hb dX12_isCovered_41 (by decide) ?_
  refine lv_iload_n hx hb dX12_isCovered_43 rfl (lv_at hl 3 rfl) ?_
  refine lv_imul hx hb dX12_isCovered_44 ?_
  refine lv_topi (fun x5 ex5 => ?_)
  refine lv_aload_n hx hb dX12_isCovered_45 rfl (lv_at hl 2 rfl) ?_
  refine va_get (D := E.1) (ci := 12) (v := .ref (q 13)) (C := RX12) (T := TX12) (N := 59) hx hb hts inX12 hown hK hP 0 rfl rfl 13 (by decide) fl27 (fun _ h9 => h9) rfl dX12_isCovered_46 ?_
  refine lv_iload_n hx hb dX12_isCovered_49 rfl (lv_at hl 3 rfl) ?_
  refine va_iald hx hb hK hP 3 0 rfl rfl hi1 dX12_isCovered_50 ?_
  refine lv_iadd hx hb dX12_isCovered_51 ?_
  refine lv_topi (fun x6 ex6 => ?_)
  refine lv_imul hx hb dX12_isCovered_52 ?_
  refine lv_topi (fun x7 ex7 => ?_)
  refine lv_icmp_ge (tgt := 193) hx hb dX12_isCovered_53 (by decide) (fun c9 => ?_) (fun c9 => absurd c9 (fun h => h (by rw [ex4, ex7, ex6, ex5]; exact cov_ge hb5)))
  refine lv_iconst (v := 1) hx hb dX12_isCovered_193 (by decide) ?_
  have hP9 := hP.sub (ws' := []) [] rfl
  have hD9 := hD.sub (ws' := []) [] (by decide) rfl
  exact W.zret (v := 1) hx hb hr (by decide) (fun t ht hW => ⟨⟨1, (), rfl, rfl, by rw [ht]; exact hP9, hD9⟩, hS.F ht⟩) hS.2.2 dX12_isCovered_194
set_option maxHeartbeats 4000000 in
set_option maxRecDepth 100000 in
theorem c_X12_covers (l : Launch) (E : vE) (h0 : Nat) (q : Nat → Nat) (fm : Nat → Int32) (b : Int32) (place : Int32) (day : Int32) (crew : Int32) (force : Int32) (sz : Nat) (hfm : ∀ k, k < 7 → fm k = 9) : Met l yX12_covers wsX12_covers ({ frames := 2, cells := 0, slots := 0, locals := 42 }) (pcW E [.ref h0, .int b, .int place, .int day, .int crew, .int force] sz [(h0, .inr (12, mO q)), (q 14, .inl (E.2 0, 7, .inl (fun _ => 0))), (q 15, .inl (E.2 0, 7, .inl fm)), (q 13, .inl (E.2 0, 7, .inl (fun _ => 0)))]) (va_Qi (fun (r : Int32) (_ : Unit) => r = cond (inR b 0 5 && isPl place && inR day 0 999 && inR crew 0 9 && inR force 0 9) 1 (-2)) (fun (_ : Unit) (t : State) => wB E (va_A [(h0, .inr (12, mO q)), (q 14, .inl (E.2 0, 7, .inl (fun _ => 0))), (q 15, .inl (E.2 0, 7, .inl fm)), (q 13, .inl (E.2 0, 7, .inl (fun _ => 0)))] sz) [] t) (va_A [(h0, .inr (12, mO q)), (q 14, .inl (E.2 0, 7, .inl (fun _ => 0))), (q 15, .inl (E.2 0, 7, .inl fm)), (q 13, .inl (E.2 0, 7, .inl (fun _ => 0)))] sz)) 0 0 (va_A [(h0, .inr (12, mO q)), (q 14, .inl (E.2 0, 7, .inl (fun _ => 0))), (q 15, .inl (E.2 0, 7, .inl fm)), (q 13, .inl (E.2 0, 7, .inl (fun _ => 0)))] sz) := by
  refine Met.ofW (cc := cX12_covers) (maxL := 6) (ret := (some .int)) (by decide) rfl ?_
  intro p e s m args below meth c s₁ B hml hv
  obtain ⟨rfl, hsz, hP, hkn, hD0, hst⟩ := hv
  have hx := B.exec
  have hb := B.bytes
  have hr := B.returns
  have hts := atoms_spec (ws := wsX12_covers) B.pre
  have hown : s.vm.findClass RX12 = some m.cls := findClass_of_methodNamed B.named
  have hlocks := B.notSynchronized
  subst hsz
  have hD := hD0.self (sz := s.heap.size)
  have hK := hkn.1
  have hAO := hkn.2.2
  generalize hAe : va_A [(h0, .inr (12, mO q)), (q 14, .inl (E.2 0, 7, .inl (fun _ => 0))), (q 15, .inl (E.2 0, 7, .inl fm)), (q 13, .inl (E.2 0, 7, .inl (fun _ => 0)))] s.heap.size = A at hD hst ⊢
  have hA : ∀ q : Nat, s.heap.size ≤ q → A q := fun q h => by rw [← hAe]; exact Or.inr h
  have hS : va_S A s.heap s.heap [] := va_S.rf
  have hP : va_P E.1 vwCl [(h0, .inr (12, mO q)), (q 14, .inl (E.2 0, 7, .inl (fun _ => 0))), (q 15, .inl (E.2 0, 7, .inl fm)), (q 13, .inl (E.2 0, 7, .inl (fun _ => 0)))] s.heap := hP
  have hl := lv_entry ([.ref h0, .int b, .int place, .int day, .int crew, .int force]) (n := 6) (Nat.le_of_ble_eq_true rfl)
  rw [lg_entry_eq]
  generalize (lg_sl ([.ref h0, .int b, .int place, .int day, .int crew, .int force]) ++ List.replicate (6 - (lg_sl ([.ref h0, .int b, .int place, .int day, .int crew, .int force])).length) Slot.unset).toArray = ls at hl ⊢
  have hl : lv_has ls 6 [(0, .ref h0), (1, .int b), (2, .int place), (3, .int day), (4, .int crew), (5, .int force)] := hl
  refine lv_iload_n hx hb dX12_covers_0 rfl (lv_at hl 1 rfl) ?_
  have hPc := hP.sub (ws' := []) [] rfl
  have hDc := hD.sub (ws' := []) [] (by decide) rfl
  have hFc := va_free (wc := []) hD hS hA [] rfl
  refine va_calli (va_runS (As := [.int b]) (rest := []) ⟨hx, hb, hml, hown, hts⟩ (c_X12_isBoat l E b s.heap.size ) (va_cwS 1 hts gX12_covers_X12_isBoat rfl rfl rfl (by decide +kernel) ⟨Nat.le_of_ble_eq_true rfl, Nat.le_of_ble_eq_true rfl⟩) ⟨pcW_blind, (pcW_pre hPc hkn hDc hst hS hFc)⟩ rfl rfl hl.1 rfl (lv_room (Nat.le_of_ble_eq_true rfl)) dX12_covers_1 ⟨Nat.le_of_ble_eq_true rfl, Nat.le_of_ble_eq_true rfl⟩) hS (fun q _ h => hFc q h) hFc (fun r1 u t H1 locs ht hvm hw2 hB hz1 hk1 hS => ?_)
  obtain ⟨hP1, hD1⟩ := hB
  rw [ht] at hP1
  try dsimp only at hw2
  obtain ⟨hP, hD⟩ := va_join (wr := [(h0, .inr (12, mO q)), (q 14, .inl (E.2 0, 7, .inl (fun _ => 0))), (q 15, .inl (E.2 0, 7, .inl fm)), (q 13, .inl (E.2 0, 7, .inl (fun _ => 0)))]) (w1 := []) hP hD [] [0, 1, 2, 3] rfl rfl (by decide) (by decide) hk1 hFc hP1 hD1
  generalize H1 = H at hP hS ⊢
  have hP : va_P E.1 vwCl [(h0, .inr (12, mO q)), (q 14, .inl (E.2 0, 7, .inl (fun _ => 0))), (q 15, .inl (E.2 0, 7, .inl fm)), (q 13, .inl (E.2 0, 7, .inl (fun _ => 0)))] H := hP
  have hD : va_D A [(h0, .inr (12, mO q)), (q 14, .inl (E.2 0, 7, .inl (fun _ => 0))), (q 15, .inl (E.2 0, 7, .inl fm)), (q 13, .inl (E.2 0, 7, .inl (fun _ => 0)))] := hD
  refine lv_if_eq (tgt := 47) hx hb dX12_covers_4 (by decide) (fun c3 => ?_) (fun c3 => ?_)
  · have b4 : inR b 0 5 = false := bz hw2 c3
    refine lv_bipush (v := (-2)) hx hb dX12_covers_47 (by decide) ?_
    have hP9 := hP.sub (ws' := []) [] rfl
    have hD9 := hD.sub (ws' := []) [] (by decide) rfl
    exact W.iret (v := (-2)) hx hb hr (fun t ht hW => ⟨⟨(-2), (), rfl, (by first | (rw [b4]; done) | (rw [b4]; rfl)), by rw [ht]; exact hP9, hD9⟩, hS.F ht⟩) hS.2.2 dX12_covers_49
  · have b5 : inR b 0 5 = true := bn hw2 c3
    refine lv_iload_n hx hb dX12_covers_7 rfl (lv_at hl 2 rfl) ?_
    have hPc := hP.sub (ws' := []) [] rfl
    have hDc := hD.sub (ws' := []) [] (by decide) rfl
    have hFc := va_free (wc := []) hD hS hA [] rfl
    refine va_calli (va_runS (As := [.int place]) (rest := []) ⟨hx, hb, hml, hown, hts⟩ (c_X12_isPlace l E place H.size ) (va_cwS 1 hts gX12_covers_X12_isPlace rfl rfl rfl (by decide +kernel) ⟨Nat.le_of_ble_eq_true rfl, Nat.le_of_ble_eq_true rfl⟩) ⟨pcW_blind, (pcW_pre hPc hkn hDc hst hS hFc)⟩ rfl rfl hl.1 rfl (lv_room (Nat.le_of_ble_eq_true rfl)) dX12_covers_8 ⟨Nat.le_of_ble_eq_true rfl, Nat.le_of_ble_eq_true rfl⟩) hS (fun q _ h => hFc q h) hFc (fun r6 u t H1 locs ht hvm hw7 hB hz1 hk1 hS => ?_)
    obtain ⟨hP1, hD1⟩ := hB
    rw [ht] at hP1
    try dsimp only at hw7
    obtain ⟨hP, hD⟩ := va_join (wr := [(h0, .inr (12, mO q)), (q 14, .inl (E.2 0, 7, .inl (fun _ => 0))), (q 15, .inl (E.2 0, 7, .inl fm)), (q 13, .inl (E.2 0, 7, .inl (fun _ => 0)))]) (w1 := []) hP hD [] [0, 1, 2, 3] rfl rfl (by decide) (by decide) hk1 hFc hP1 hD1
    generalize H1 = H at hP hS ⊢
    have hP : va_P E.1 vwCl [(h0, .inr (12, mO q)), (q 14, .inl (E.2 0, 7, .inl (fun _ => 0))), (q 15, .inl (E.2 0, 7, .inl fm)), (q 13, .inl (E.2 0, 7, .inl (fun _ => 0)))] H := hP
    have hD : va_D A [(h0, .inr (12, mO q)), (q 14, .inl (E.2 0, 7, .inl (fun _ => 0))), (q 15, .inl (E.2 0, 7, .inl fm)), (q 13, .inl (E.2 0, 7, .inl (fun _ => 0)))] := hD
    refine lv_if_eq (tgt := 47) hx hb dX12_covers_11 (by decide) (fun c8 => ?_) (fun c8 => ?_)
    · have b9 : isPl place = false := bz hw7 c8
      refine lv_bipush (v := (-2)) hx hb dX12_covers_47 (by decide) ?_
      have hP9 := hP.sub (ws' := []) [] rfl
      have hD9 := hD.sub (ws' := []) [] (by decide) rfl
      exact W.iret (v := (-2)) hx hb hr (fun t ht hW => ⟨⟨(-2), (), rfl, (by first | (rw [b5, b9]; done) | (rw [b5, b9]; rfl)), by rw [ht]; exact hP9, hD9⟩, hS.F ht⟩) hS.2.2 dX12_covers_49
    · have b10 : isPl place = true := bn hw7 c8
      refine lv_iload_n hx hb dX12_covers_14 rfl (lv_at hl 3 rfl) ?_
      refine lv_iconst (v := 0) hx hb dX12_covers_15 (by decide) ?_
      refine lv_sipush (v := 999) hx hb dX12_covers_16 (by decide) ?_
      have hPc := hP.sub (ws' := []) [] rfl
      have hDc := hD.sub (ws' := []) [] (by decide) rfl
      have hFc := va_free (wc := []) hD hS hA [] rfl
      refine va_calli (va_runS (As := [.int day, .int 0, .int 999]) (rest := []) ⟨hx, hb, hml, hown, hts⟩ (c_X12_in l E day 0 999 H.size ) (va_cwS 3 hts gX12_covers_X12_in rfl rfl rfl (by decide +kernel) ⟨Nat.le_of_ble_eq_true rfl, Nat.le_of_ble_eq_true rfl⟩) ⟨pcW_blind, (pcW_pre hPc hkn hDc hst hS hFc)⟩ rfl rfl hl.1 rfl (lv_room (Nat.le_of_ble_eq_true rfl)) dX12_covers_19 ⟨Nat.le_of_ble_eq_true rfl, Nat.le_of_ble_eq_true rfl⟩) hS (fun q _ h => hFc q h) hFc (fun r11 u t H1 locs ht hvm hw12 hB hz1 hk1 hS => ?_)
      obtain ⟨hP1, hD1⟩ := hB
      rw [ht] at hP1
      try dsimp only at hw12
      obtain ⟨hP, hD⟩ := va_join (wr := [(h0, .inr (12, mO q)), (q 14, .inl (E.2 0, 7, .inl (fun _ => 0))), (q 15, .inl (E.2 0, 7, .inl fm)), (q 13, .inl (E.2 0, 7, .inl (fun _ => 0)))]) (w1 := []) hP hD [] [0, 1, 2, 3] rfl rfl (by decide) (by decide) hk1 hFc hP1 hD1
      generalize H1 = H at hP hS ⊢
      have hP : va_P E.1 vwCl [(h0, .inr (12, mO q)), (q 14, .inl (E.2 0, 7, .inl (fun _ => 0))), (q 15, .inl (E.2 0, 7, .inl fm)), (q 13, .inl (E.2 0, 7, .inl (fun _ => 0)))] H := hP
      have hD : va_D A [(h0, .inr (12, mO q)), (q 14, .inl (E.2 0, 7, .inl (fun _ => 0))), (q 15, .inl (E.2 0, 7, .inl fm)), (q 13, .inl (E.2 0, 7, .inl (fun _ => 0)))] := hD
      refine lv_if_eq (tgt := 47) hx hb dX12_covers_22 (by decide) (fun c13 => ?_) (fun c13 => ?_)
      · have b14 : inR day 0 999 = false := bz hw12 c13
        refine lv_bipush (v := (-2)) hx hb dX12_covers_47 (by decide) ?_
        have hP9 := hP.sub (ws' := []) [] rfl
        have hD9 := hD.sub (ws' := []) [] (by decide) rfl
        exact W.iret (v := (-2)) hx hb hr (fun t ht hW => ⟨⟨(-2), (), rfl, (by first | (rw [b5, b10, b14]; done) | (rw [b5, b10, b14]; rfl)), by rw [ht]; exact hP9, hD9⟩, hS.F ht⟩) hS.2.2 dX12_covers_49
      · have b15 : inR day 0 999 = true := bn hw12 c13
        refine lv_iload hx hb dX12_covers_25 (lv_at hl 4 rfl) ?_
        refine lv_iconst (v := 0) hx hb dX12_covers_27 (by decide) ?_
        refine lv_bipush (v := 9) hx hb dX12_covers_28 (by decide) ?_
        have hPc := hP.sub (ws' := []) [] rfl
        have hDc := hD.sub (ws' := []) [] (by decide) rfl
        have hFc := va_free (wc := []) hD hS hA [] rfl
        refine va_calli (va_runS (As := [.int crew, .int 0, .int 9]) (rest := []) ⟨hx, hb, hml, hown, hts⟩ (c_X12_in l E crew 0 9 H.size ) (va_cwS 3 hts gX12_covers_X12_in rfl rfl rfl (by decide +kernel) ⟨Nat.le_of_ble_eq_true rfl, Nat.le_of_ble_eq_true rfl⟩) ⟨pcW_blind, (pcW_pre hPc hkn hDc hst hS hFc)⟩ rfl rfl hl.1 rfl (lv_room (Nat.le_of_ble_eq_true rfl)) dX12_covers_30 ⟨Nat.le_of_ble_eq_true rfl, Nat.le_of_ble_eq_true rfl⟩) hS (fun q _ h => hFc q h) hFc (fun r16 u t H1 locs ht hvm hw17 hB hz1 hk1 hS => ?_)
        obtain ⟨hP1, hD1⟩ := hB
        rw [ht] at hP1
        try dsimp only at hw17
        obtain ⟨hP, hD⟩ := va_join (wr := [(h0, .inr (12, mO q)), (q 14, .inl (E.2 0, 7, .inl (fun _ => 0))), (q 15, .inl (E.2 0, 7, .inl fm)), (q 13, .inl (E.2 0, 7, .inl (fun _ => 0)))]) (w1 := []) hP hD [] [0, 1, 2, 3] rfl rfl (by decide) (by decide) hk1 hFc hP1 hD1
        generalize H1 = H at hP hS ⊢
        have hP : va_P E.1 vwCl [(h0, .inr (12, mO q)), (q 14, .inl (E.2 0, 7, .inl (fun _ => 0))), (q 15, .inl (E.2 0, 7, .inl fm)), (q 13, .inl (E.2 0, 7, .inl (fun _ => 0)))] H := hP
        have hD : va_D A [(h0, .inr (12, mO q)), (q 14, .inl (E.2 0, 7, .inl (fun _ => 0))), (q 15, .inl (E.2 0, 7, .inl fm)), (q 13, .inl (E.2 0, 7, .inl (fun _ => 0)))] := hD
        refine lv_if_eq (tgt := 47) hx hb dX12_covers_33 (by decide) (fun c18 => ?_) (fun c18 => ?_)
        · have b19 : inR crew 0 9 = false := bz hw17 c18
          refine lv_bipush (v := (-2)) hx hb dX12_covers_47 (by decide) ?_
          have hP9 := hP.sub (ws' := []) [] rfl
          have hD9 := hD.sub (ws' := []) [] (by decide) rfl
          exact W.iret (v := (-2)) hx hb hr (fun t ht hW => ⟨⟨(-2), (), rfl, (by first | (rw [b5, b10, b15, b19]; done) | (rw [b5, b10, b15, b19]; rfl)), by rw [ht]; exact hP9, hD9⟩, hS.F ht⟩) hS.2.2 dX12_covers_49
        · have b20 : inR crew 0 9 = true := bn hw17 c18
          refine lv_iload hx hb dX12_covers_36 (lv_at hl 5 rfl) ?_
          refine lv_iconst (v := 0) hx hb dX12_covers_38 (by decide) ?_
          refine lv_bipush (v := 9) hx hb dX12_covers_39 (by decide) ?_
          have hPc := hP.sub (ws' := []) [] rfl
          have hDc := hD.sub (ws' := []) [] (by decide) rfl
          have hFc := va_free (wc := []) hD hS hA [] rfl
          refine va_calli (va_runS (As := [.int force, .int 0, .int 9]) (rest := []) ⟨hx, hb, hml, hown, hts⟩ (c_X12_in l E force 0 9 H.size ) (va_cwS 3 hts gX12_covers_X12_in rfl rfl rfl (by decide +kernel) ⟨Nat.le_of_ble_eq_true rfl, Nat.le_of_ble_eq_true rfl⟩) ⟨pcW_blind, (pcW_pre hPc hkn hDc hst hS hFc)⟩ rfl rfl hl.1 rfl (lv_room (Nat.le_of_ble_eq_true rfl)) dX12_covers_41 ⟨Nat.le_of_ble_eq_true rfl, Nat.le_of_ble_eq_true rfl⟩) hS (fun q _ h => hFc q h) hFc (fun r21 u t H1 locs ht hvm hw22 hB hz1 hk1 hS => ?_)
          obtain ⟨hP1, hD1⟩ := hB
          rw [ht] at hP1
          try dsimp only at hw22
          obtain ⟨hP, hD⟩ := va_join (wr := [(h0, .inr (12, mO q)), (q 14, .inl (E.2 0, 7, .inl (fun _ => 0))), (q 15, .inl (E.2 0, 7, .inl fm)), (q 13, .inl (E.2 0, 7, .inl (fun _ => 0)))]) (w1 := []) hP hD [] [0, 1, 2, 3] rfl rfl (by decide) (by decide) hk1 hFc hP1 hD1
          generalize H1 = H at hP hS ⊢
          have hP : va_P E.1 vwCl [(h0, .inr (12, mO q)), (q 14, .inl (E.2 0, 7, .inl (fun _ => 0))), (q 15, .inl (E.2 0, 7, .inl fm)), (q 13, .inl (E.2 0, 7, .inl (fun _ => 0)))] H := hP
          have hD : va_D A [(h0, .inr (12, mO q)), (q 14, .inl (E.2 0, 7, .inl (fun _ => 0))), (q 15, .inl (E.2 0, 7, .inl fm)), (q 13, .inl (E.2 0, 7, .inl (fun _ => 0)))] := hD
          refine lv_if_ne (tgt := 50) hx hb dX12_covers_44 (by decide) (fun c23 => ?_) (fun c23 => ?_)
          · have b24 : inR force 0 9 = true := bn hw22 c23
            refine lv_aload_n hx hb dX12_covers_50 rfl (lv_at hl 0 rfl) ?_
            refine lv_iload_n hx hb dX12_covers_51 rfl (lv_at hl 1 rfl) ?_
            refine lv_iload_n hx hb dX12_covers_52 rfl (lv_at hl 2 rfl) ?_
            refine lv_iload_n hx hb dX12_covers_53 rfl (lv_at hl 3 rfl) ?_
            refine lv_iload hx hb dX12_covers_54 (lv_at hl 4 rfl) ?_
            refine lv_iload hx hb dX12_covers_56 (lv_at hl 5 rfl) ?_
            have hPc := hP.sub (ws' := [(h0, .inr (12, mO q)), (q 14, .inl (E.2 0, 7, .inl (fun _ => 0))), (q 15, .inl (E.2 0, 7, .inl fm)), (q 13, .inl (E.2 0, 7, .inl (fun _ => 0)))]) [0, 1, 2, 3] rfl
            have hDc := hD.sub (ws' := [(h0, .inr (12, mO q)), (q 14, .inl (E.2 0, 7, .inl (fun _ => 0))), (q 15, .inl (E.2 0, 7, .inl fm)), (q 13, .inl (E.2 0, 7, .inl (fun _ => 0)))]) [0, 1, 2, 3] (by decide) rfl
            have hFc := va_free (wc := [(h0, .inr (12, mO q)), (q 14, .inl (E.2 0, 7, .inl (fun _ => 0))), (q 15, .inl (E.2 0, 7, .inl fm)), (q 13, .inl (E.2 0, 7, .inl (fun _ => 0)))]) hD hS hA [0, 1, 2, 3] rfl
            refine va_calli (va_runV (As := [.int b, .int place, .int day, .int crew, .int force]) (rest := []) ⟨hx, hb, hml, hown, hts⟩ (c_X12_isCovered l E h0 q b place day crew force fm H.size b5 b20 b24 hfm) (cwV 5 hts gX12_covers_X12_isCovered rfl rfl rfl (by decide +kernel) ⟨Nat.le_of_ble_eq_true rfl, Nat.le_of_ble_eq_true rfl⟩) ⟨pcW_blind, va_recv hK hPc (ci := 12) (q0 := 0) rfl rfl, (pcW_pre hPc hkn hDc hst hS hFc)⟩ rfl rfl hl.1 rfl (lv_room (Nat.le_of_ble_eq_true rfl)) dX12_covers_58 ⟨Nat.le_of_ble_eq_true rfl, Nat.le_of_ble_eq_true rfl⟩) hS (fun q _ h => hFc q h) hFc (fun r25 u t H1 locs ht hvm hw26 hB hz1 hk1 hS => ?_)
            obtain ⟨hP1, hD1⟩ := hB
            rw [ht] at hP1
            try dsimp only at hw26
            obtain ⟨hP, hD⟩ := va_join (wr := []) (w1 := []) hP hD [0, 1, 2, 3] [] rfl rfl (by decide) (by decide) hk1 hFc hP1 hD1
            generalize H1 = H at hP hS ⊢
            have hP : va_P E.1 vwCl [] H := hP
            have hD : va_D A [] := hD
            obtain rfl : r25 = 1 := hw26
            refine lv_if_eq (tgt := 68) hx hb dX12_covers_61 (by decide) (fun c9 => absurd c9 (by decide)) (fun _ => ?_)
            refine lv_iconst (v := 1) hx hb dX12_covers_64 (by decide) ?_
            refine lv_goto (tgt := 69) hx hb dX12_covers_65 (by decide) ?_
            have hP9 := hP.sub (ws' := []) [] rfl
            have hD9 := hD.sub (ws' := []) [] (by decide) rfl
            exact W.iret (v := 1) hx hb hr (fun t ht hW => ⟨⟨1, (), rfl, (by first | (rw [b5, b10, b15, b20, b24]; done) | (rw [b5, b10, b15, b20, b24]; rfl)), by rw [ht]; exact hP9, hD9⟩, hS.F ht⟩) hS.2.2 dX12_covers_69
          · have b27 : inR force 0 9 = false := bz hw22 c23
            refine lv_bipush (v := (-2)) hx hb dX12_covers_47 (by decide) ?_
            have hP9 := hP.sub (ws' := []) [] rfl
            have hD9 := hD.sub (ws' := []) [] (by decide) rfl
            exact W.iret (v := (-2)) hx hb hr (fun t ht hW => ⟨⟨(-2), (), rfl, (by first | (rw [b5, b10, b15, b20, b27]; done) | (rw [b5, b10, b15, b20, b27]; rfl)), by rw [ht]; exact hP9, hD9⟩, hS.F ht⟩) hS.2.2 dX12_covers_49
set_option maxHeartbeats 4000000 in
set_option maxRecDepth 100000 in
theorem c_X12_begin (l : Launch) (E : vE) (h0 : Nat) (q : Nat → Nat) (b : Int32) (pt : Int32) (day : Int32) (crew : Int32) (sz : Nat) : Met l yX12_begin wsX12_begin ({ frames := 2, cells := 0, slots := 0, locals := 42 }) (pcW E [.ref h0, .int b, .int pt, .int day, .int crew] sz [(h0, .inr (12, mO q)), (q 24, .inl (E.2 1, 6, .inl (fun _ => 0))), (q 25, .inl (E.2 0, 6, .inl (fun _ => 0))), (q 19, .inl (E.2 0, 10, .inl (fun _ => 0))), (q 26, .inl (E.2 0, 6, .inl (fun _ => 0))), (q 33, .inl (E.2 0, 6, .inl (fun _ => 0))), (q 27, .inl (E.2 0, 6, .inl (fun _ => 0))), (q 28, .inl (E.2 0, 6, .inl (fun _ => 0))), (q 30, .inl (E.2 0, 6, .inl (fun _ => 0))), (q 31, .inl (E.2 0, 6, .inl (fun _ => 0))), (q 32, .inl (E.2 0, 6, .inl (fun _ => 0))), (q 34, .inl (E.2 0, 6, .inl (fun _ => 0))), (q 35, .inl (E.2 1, 6, .inl (fun _ => 0))), (q 36, .inl (E.2 0, 6, .inl (fun _ => 0))), (q 37, .inl (E.2 0, 6, .inl (fun _ => 0))), (q 38, .inl (E.2 0, 6, .inl (fun _ => 0))), (q 39, .inl (E.2 0, 6, .inl (fun _ => 0))), (q 40, .inl (E.2 0, 6, .inl (fun _ => 0)))]) (va_Qi (fun (r : Int32) (_ : Unit) => r = cond (inR b 0 5 && inR pt 0 9 && inR day 0 499 && inR crew 1 9) 1 (-2)) (fun (_ : Unit) (t : State) => wB E (va_A [(h0, .inr (12, mO q)), (q 24, .inl (E.2 1, 6, .inl (fun _ => 0))), (q 25, .inl (E.2 0, 6, .inl (fun _ => 0))), (q 19, .inl (E.2 0, 10, .inl (fun _ => 0))), (q 26, .inl (E.2 0, 6, .inl (fun _ => 0))), (q 33, .inl (E.2 0, 6, .inl (fun _ => 0))), (q 27, .inl (E.2 0, 6, .inl (fun _ => 0))), (q 28, .inl (E.2 0, 6, .inl (fun _ => 0))), (q 30, .inl (E.2 0, 6, .inl (fun _ => 0))), (q 31, .inl (E.2 0, 6, .inl (fun _ => 0))), (q 32, .inl (E.2 0, 6, .inl (fun _ => 0))), (q 34, .inl (E.2 0, 6, .inl (fun _ => 0))), (q 35, .inl (E.2 1, 6, .inl (fun _ => 0))), (q 36, .inl (E.2 0, 6, .inl (fun _ => 0))), (q 37, .inl (E.2 0, 6, .inl (fun _ => 0))), (q 38, .inl (E.2 0, 6, .inl (fun _ => 0))), (q 39, .inl (E.2 0, 6, .inl (fun _ => 0))), (q 40, .inl (E.2 0, 6, .inl (fun _ => 0)))] sz) [] t) (va_A [(h0, .inr (12, mO q)), (q 24, .inl (E.2 1, 6, .inl (fun _ => 0))), (q 25, .inl (E.2 0, 6, .inl (fun _ => 0))), (q 19, .inl (E.2 0, 10, .inl (fun _ => 0))), (q 26, .inl (E.2 0, 6, .inl (fun _ => 0))), (q 33, .inl (E.2 0, 6, .inl (fun _ => 0))), (q 27, .inl (E.2 0, 6, .inl (fun _ => 0))), (q 28, .inl (E.2 0, 6, .inl (fun _ => 0))), (q 30, .inl (E.2 0, 6, .inl (fun _ => 0))), (q 31, .inl (E.2 0, 6, .inl (fun _ => 0))), (q 32, .inl (E.2 0, 6, .inl (fun _ => 0))), (q 34, .inl (E.2 0, 6, .inl (fun _ => 0))), (q 35, .inl (E.2 1, 6, .inl (fun _ => 0))), (q 36, .inl (E.2 0, 6, .inl (fun _ => 0))), (q 37, .inl (E.2 0, 6, .inl (fun _ => 0))), (q 38, .inl (E.2 0, 6, .inl (fun _ => 0))), (q 39, .inl (E.2 0, 6, .inl (fun _ => 0))), (q 40, .inl (E.2 0, 6, .inl (fun _ => 0)))] sz)) 0 0 (va_A [(h0, .inr (12, mO q)), (q 24, .inl (E.2 1, 6, .inl (fun _ => 0))), (q 25, .inl (E.2 0, 6, .inl (fun _ => 0))), (q 19, .inl (E.2 0, 10, .inl (fun _ => 0))), (q 26, .inl (E.2 0, 6, .inl (fun _ => 0))), (q 33, .inl (E.2 0, 6, .inl (fun _ => 0))), (q 27, .inl (E.2 0, 6, .inl (fun _ => 0))), (q 28, .inl (E.2 0, 6, .inl (fun _ => 0))), (q 30, .inl (E.2 0, 6, .inl (fun _ => 0))), (q 31, .inl (E.2 0, 6, .inl (fun _ => 0))), (q 32, .inl (E.2 0, 6, .inl (fun _ => 0))), (q 34, .inl (E.2 0, 6, .inl (fun _ => 0))), (q 35, .inl (E.2 1, 6, .inl (fun _ => 0))), (q 36, .inl (E.2 0, 6, .inl (fun _ => 0))), (q 37, .inl (E.2 0, 6, .inl (fun _ => 0))), (q 38, .inl (E.2 0, 6, .inl (fun _ => 0))), (q 39, .inl (E.2 0, 6, .inl (fun _ => 0))), (q 40, .inl (E.2 0, 6, .inl (fun _ => 0)))] sz) := by
  refine Met.ofW (cc := cX12_begin) (maxL := 5) (ret := (some .int)) (by decide) rfl ?_
  intro p e s m args below meth c s₁ B hml hv
  obtain ⟨rfl, hsz, hP, hkn, hD0, hst⟩ := hv
  have hx := B.exec
  have hb := B.bytes
  have hr := B.returns
  have hts := atoms_spec (ws := wsX12_begin) B.pre
  have hown : s.vm.findClass RX12 = some m.cls := findClass_of_methodNamed B.named
  have hlocks := B.notSynchronized
  subst hsz
  have hD := hD0.self (sz := s.heap.size)
  have hK := hkn.1
  have hAO := hkn.2.2
  generalize hAe : va_A [(h0, .inr (12, mO q)), (q 24, .inl (E.2 1, 6, .inl (fun _ => 0))), (q 25, .inl (E.2 0, 6, .inl (fun _ => 0))), (q 19, .inl (E.2 0, 10, .inl (fun _ => 0))), (q 26, .inl (E.2 0, 6, .inl (fun _ => 0))), (q 33, .inl (E.2 0, 6, .inl (fun _ => 0))), (q 27, .inl (E.2 0, 6, .inl (fun _ => 0))), (q 28, .inl (E.2 0, 6, .inl (fun _ => 0))), (q 30, .inl (E.2 0, 6, .inl (fun _ => 0))), (q 31, .inl (E.2 0, 6, .inl (fun _ => 0))), (q 32, .inl (E.2 0, 6, .inl (fun _ => 0))), (q 34, .inl (E.2 0, 6, .inl (fun _ => 0))), (q 35, .inl (E.2 1, 6, .inl (fun _ => 0))), (q 36, .inl (E.2 0, 6, .inl (fun _ => 0))), (q 37, .inl (E.2 0, 6, .inl (fun _ => 0))), (q 38, .inl (E.2 0, 6, .inl (fun _ => 0))), (q 39, .inl (E.2 0, 6, .inl (fun _ => 0))), (q 40, .inl (E.2 0, 6, .inl (fun _ => 0)))] s.heap.size = A at hD hst ⊢
  have hA : ∀ q : Nat, s.heap.size ≤ q → A q := fun q h => by rw [← hAe]; exact Or.inr h
  have hS : va_S A s.heap s.heap [] := va_S.rf
  have hP : va_P E.1 vwCl [(h0, .inr (12, mO q)), (q 24, .inl (E.2 1, 6, .inl (fun _ => 0))), (q 25, .inl (E.2 0, 6, .inl (fun _ => 0))), (q 19, .inl (E.2 0, 10, .inl (fun _ => 0))), (q 26, .inl (E.2 0, 6, .inl (fun _ => 0))), (q 33, .inl (E.2 0, 6, .inl (fun _ => 0))), (q 27, .inl (E.2 0, 6, .inl (fun _ => 0))), (q 28, .inl (E.2 0, 6, .inl (fun _ => 0))), (q 30, .inl (E.2 0, 6, .inl (fun _ => 0))), (q 31, .inl (E.2 0, 6, .inl (fun _ => 0))), (q 32, .inl (E.2 0, 6, .inl (fun _ => 0))), (q 34, .inl (E.2 0, 6, .inl (fun _ => 0))), (q 35, .inl (E.2 1, 6, .inl (fun _ => 0))), (q 36, .inl (E.2 0, 6, .inl (fun _ => 0))), (q 37, .inl (E.2 0, 6, .inl (fun _ => 0))), (q 38, .inl (E.2 0, 6, .inl (fun _ => 0))), (q 39, .inl (E.2 0, 6, .inl (fun _ => 0))), (q 40, .inl (E.2 0, 6, .inl (fun _ => 0)))] s.heap := hP
  have hl := lv_entry ([.ref h0, .int b, .int pt, .int day, .int crew]) (n := 5) (Nat.le_of_ble_eq_true rfl)
  rw [lg_entry_eq]
  generalize (lg_sl ([.ref h0, .int b, .int pt, .int day, .int crew]) ++ List.replicate (5 - (lg_sl ([.ref h0, .int b, .int pt, .int day, .int crew])).length) Slot.unset).toArray = ls at hl ⊢
  have hl : lv_has ls 5 [(0, .ref h0), (1, .int b), (2, .int pt), (3, .int day), (4, .int crew)] := hl
  have fl42 := hts (.fieldLink RX12 42 "BoatsHomeModel" "ports" "[I") (by decide +kernel)
  have fl54 := hts (.fieldLink RX12 54 "BoatsHomeModel" "begun" "[Z") (by decide +kernel)
  have fl58 := hts (.fieldLink RX12 58 "BoatsHomeModel" "state" "[I") (by decide +kernel)
  have fl61 := hts (.fieldLink RX12 61 "BoatsHomeModel" "home" "[I") (by decide +kernel)
  have fl64 := hts (.fieldLink RX12 64 "BoatsHomeModel" "firstDay" "[I") (by decide +kernel)
  have fl67 := hts (.fieldLink RX12 67 "BoatsHomeModel" "crewMany" "[I") (by decide +kernel)
  have fl73 := hts (.fieldLink RX12 73 "BoatsHomeModel" "wayAt" "[I") (by decide +kernel)
  have fl76 := hts (.fieldLink RX12 76 "BoatsHomeModel" "wayEnd" "[I") (by decide +kernel)
  have fl79 := hts (.fieldLink RX12 79 "BoatsHomeModel" "watches" "[I") (by decide +kernel)
  have fl82 := hts (.fieldLink RX12 82 "BoatsHomeModel" "here" "[I") (by decide +kernel)
  have fl85 := hts (.fieldLink RX12 85 "BoatsHomeModel" "gone" "[I") (by decide +kernel)
  have fl88 := hts (.fieldLink RX12 88 "BoatsHomeModel" "turned" "[Z") (by decide +kernel)
  have fl91 := hts (.fieldLink RX12 91 "BoatsHomeModel" "cells" "[I") (by decide +kernel)
  have fl94 := hts (.fieldLink RX12 94 "BoatsHomeModel" "waited" "[I") (by decide +kernel)
  have fl97 := hts (.fieldLink RX12 97 "BoatsHomeModel" "bare" "[I") (by decide +kernel)
  have fl100 := hts (.fieldLink RX12 100 "BoatsHomeModel" "dry" "[I") (by decide +kernel)
  have fl103 := hts (.fieldLink RX12 103 "BoatsHomeModel" "firstBare" "[I") (by decide +kernel)
  have inX12 : ∀ w ∈ u_ws RX12 TX12 59, w ∈ wsX12_begin := by decide +kernel
  refine lv_iload_n hx hb dX12_begin_0 rfl (lv_at hl 1 rfl) ?_
  have hPc := hP.sub (ws' := []) [] rfl
  have hDc := hD.sub (ws' := []) [] (by decide) rfl
  have hFc := va_free (wc := []) hD hS hA [] rfl
  refine va_calli (va_runS (As := [.int b]) (rest := []) ⟨hx, hb, hml, hown, hts⟩ (c_X12_isBoat l E b s.heap.size ) (va_cwS 1 hts gX12_begin_X12_isBoat rfl rfl rfl (by decide +kernel) ⟨Nat.le_of_ble_eq_true rfl, Nat.le_of_ble_eq_true rfl⟩) ⟨pcW_blind, (pcW_pre hPc hkn hDc hst hS hFc)⟩ rfl rfl hl.1 rfl (lv_room (Nat.le_of_ble_eq_true rfl)) dX12_begin_1 ⟨Nat.le_of_ble_eq_true rfl, Nat.le_of_ble_eq_true rfl⟩) hS (fun q _ h => hFc q h) hFc (fun r1 u t H1 locs ht hvm hw2 hB hz1 hk1 hS => ?_)
  obtain ⟨hP1, hD1⟩ := hB
  rw [ht] at hP1
  try dsimp only at hw2
  obtain ⟨hP, hD⟩ := va_join (wr := [(h0, .inr (12, mO q)), (q 24, .inl (E.2 1, 6, .inl (fun _ => 0))), (q 25, .inl (E.2 0, 6, .inl (fun _ => 0))), (q 19, .inl (E.2 0, 10, .inl (fun _ => 0))), (q 26, .inl (E.2 0, 6, .inl (fun _ => 0))), (q 33, .inl (E.2 0, 6, .inl (fun _ => 0))), (q 27, .inl (E.2 0, 6, .inl (fun _ => 0))), (q 28, .inl (E.2 0, 6, .inl (fun _ => 0))), (q 30, .inl (E.2 0, 6, .inl (fun _ => 0))), (q 31, .inl (E.2 0, 6, .inl (fun _ => 0))), (q 32, .inl (E.2 0, 6, .inl (fun _ => 0))), (q 34, .inl (E.2 0, 6, .inl (fun _ => 0))), (q 35, .inl (E.2 1, 6, .inl (fun _ => 0))), (q 36, .inl (E.2 0, 6, .inl (fun _ => 0))), (q 37, .inl (E.2 0, 6, .inl (fun _ => 0))), (q 38, .inl (E.2 0, 6, .inl (fun _ => 0))), (q 39, .inl (E.2 0, 6, .inl (fun _ => 0))), (q 40, .inl (E.2 0, 6, .inl (fun _ => 0)))]) (w1 := []) hP hD [] [0, 1, 2, 3, 4, 5, 6, 7, 8, 9, 10, 11, 12, 13, 14, 15, 16, 17] rfl rfl (by decide) (by decide) hk1 hFc hP1 hD1
  generalize H1 = H at hP hS ⊢
  have hP : va_P E.1 vwCl [(h0, .inr (12, mO q)), (q 24, .inl (E.2 1, 6, .inl (fun _ => 0))), (q 25, .inl (E.2 0, 6, .inl (fun _ => 0))), (q 19, .inl (E.2 0, 10, .inl (fun _ => 0))), (q 26, .inl (E.2 0, 6, .inl (fun _ => 0))), (q 33, .inl (E.2 0, 6, .inl (fun _ => 0))), (q 27, .inl (E.2 0, 6, .inl (fun _ => 0))), (q 28, .inl (E.2 0, 6, .inl (fun _ => 0))), (q 30, .inl (E.2 0, 6, .inl (fun _ => 0))), (q 31, .inl (E.2 0, 6, .inl (fun _ => 0))), (q 32, .inl (E.2 0, 6, .inl (fun _ => 0))), (q 34, .inl (E.2 0, 6, .inl (fun _ => 0))), (q 35, .inl (E.2 1, 6, .inl (fun _ => 0))), (q 36, .inl (E.2 0, 6, .inl (fun _ => 0))), (q 37, .inl (E.2 0, 6, .inl (fun _ => 0))), (q 38, .inl (E.2 0, 6, .inl (fun _ => 0))), (q 39, .inl (E.2 0, 6, .inl (fun _ => 0))), (q 40, .inl (E.2 0, 6, .inl (fun _ => 0)))] H := hP
  have hD : va_D A [(h0, .inr (12, mO q)), (q 24, .inl (E.2 1, 6, .inl (fun _ => 0))), (q 25, .inl (E.2 0, 6, .inl (fun _ => 0))), (q 19, .inl (E.2 0, 10, .inl (fun _ => 0))), (q 26, .inl (E.2 0, 6, .inl (fun _ => 0))), (q 33, .inl (E.2 0, 6, .inl (fun _ => 0))), (q 27, .inl (E.2 0, 6, .inl (fun _ => 0))), (q 28, .inl (E.2 0, 6, .inl (fun _ => 0))), (q 30, .inl (E.2 0, 6, .inl (fun _ => 0))), (q 31, .inl (E.2 0, 6, .inl (fun _ => 0))), (q 32, .inl (E.2 0, 6, .inl (fun _ => 0))), (q 34, .inl (E.2 0, 6, .inl (fun _ => 0))), (q 35, .inl (E.2 1, 6, .inl (fun _ => 0))), (q 36, .inl (E.2 0, 6, .inl (fun _ => 0))), (q 37, .inl (E.2 0, 6, .inl (fun _ => 0))), (q 38, .inl (E.2 0, 6, .inl (fun _ => 0))), (q 39, .inl (E.2 0, 6, .inl (fun _ => 0))), (q 40, .inl (E.2 0, 6, .inl (fun _ => 0)))] := hD
  refine lv_if_eq (tgt := 36) hx hb dX12_begin_4 (by decide) (fun c3 => ?_) (fun c3 => ?_)
  · have b4 : inR b 0 5 = false := bz hw2 c3
    refine lv_bipush (v := (-2)) hx hb dX12_begin_36 (by decide) ?_
    have hP9 := hP.sub (ws' := []) [] rfl
    have hD9 := hD.sub (ws' := []) [] (by decide) rfl
    exact W.iret (v := (-2)) hx hb hr (fun t ht hW => ⟨⟨(-2), (), rfl, (by first | (rw [b4]; done) | (rw [b4]; rfl)), by rw [ht]; exact hP9, hD9⟩, hS.F ht⟩) hS.2.2 dX12_begin_38
  · have b5 : inR b 0 5 = true := bn hw2 c3
    refine lv_iload_n hx hb dX12_begin_7 rfl (lv_at hl 2 rfl) ?_
    have hPc := hP.sub (ws' := []) [] rfl
    have hDc := hD.sub (ws' := []) [] (by decide) rfl
    have hFc := va_free (wc := []) hD hS hA [] rfl
    refine va_calli (va_runS (As := [.int pt]) (rest := []) ⟨hx, hb, hml, hown, hts⟩ (c_X12_isPort l E pt H.size ) (va_cwS 1 hts gX12_begin_X12_isPort rfl rfl rfl (by decide +kernel) ⟨Nat.le_of_ble_eq_true rfl, Nat.le_of_ble_eq_true rfl⟩) ⟨pcW_blind, (pcW_pre hPc hkn hDc hst hS hFc)⟩ rfl rfl hl.1 rfl (lv_room (Nat.le_of_ble_eq_true rfl)) dX12_begin_8 ⟨Nat.le_of_ble_eq_true rfl, Nat.le_of_ble_eq_true rfl⟩) hS (fun q _ h => hFc q h) hFc (fun r6 u t H1 locs ht hvm hw7 hB hz1 hk1 hS => ?_)
    obtain ⟨hP1, hD1⟩ := hB
    rw [ht] at hP1
    try dsimp only at hw7
    obtain ⟨hP, hD⟩ := va_join (wr := [(h0, .inr (12, mO q)), (q 24, .inl (E.2 1, 6, .inl (fun _ => 0))), (q 25, .inl (E.2 0, 6, .inl (fun _ => 0))), (q 19, .inl (E.2 0, 10, .inl (fun _ => 0))), (q 26, .inl (E.2 0, 6, .inl (fun _ => 0))), (q 33, .inl (E.2 0, 6, .inl (fun _ => 0))), (q 27, .inl (E.2 0, 6, .inl (fun _ => 0))), (q 28, .inl (E.2 0, 6, .inl (fun _ => 0))), (q 30, .inl (E.2 0, 6, .inl (fun _ => 0))), (q 31, .inl (E.2 0, 6, .inl (fun _ => 0))), (q 32, .inl (E.2 0, 6, .inl (fun _ => 0))), (q 34, .inl (E.2 0, 6, .inl (fun _ => 0))), (q 35, .inl (E.2 1, 6, .inl (fun _ => 0))), (q 36, .inl (E.2 0, 6, .inl (fun _ => 0))), (q 37, .inl (E.2 0, 6, .inl (fun _ => 0))), (q 38, .inl (E.2 0, 6, .inl (fun _ => 0))), (q 39, .inl (E.2 0, 6, .inl (fun _ => 0))), (q 40, .inl (E.2 0, 6, .inl (fun _ => 0)))]) (w1 := []) hP hD [] [0, 1, 2, 3, 4, 5, 6, 7, 8, 9, 10, 11, 12, 13, 14, 15, 16, 17] rfl rfl (by decide) (by decide) hk1 hFc hP1 hD1
    generalize H1 = H at hP hS ⊢
    have hP : va_P E.1 vwCl [(h0, .inr (12, mO q)), (q 24, .inl (E.2 1, 6, .inl (fun _ => 0))), (q 25, .inl (E.2 0, 6, .inl (fun _ => 0))), (q 19, .inl (E.2 0, 10, .inl (fun _ => 0))), (q 26, .inl (E.2 0, 6, .inl (fun _ => 0))), (q 33, .inl (E.2 0, 6, .inl (fun _ => 0))), (q 27, .inl (E.2 0, 6, .inl (fun _ => 0))), (q 28, .inl (E.2 0, 6, .inl (fun _ => 0))), (q 30, .inl (E.2 0, 6, .inl (fun _ => 0))), (q 31, .inl (E.2 0, 6, .inl (fun _ => 0))), (q 32, .inl (E.2 0, 6, .inl (fun _ => 0))), (q 34, .inl (E.2 0, 6, .inl (fun _ => 0))), (q 35, .inl (E.2 1, 6, .inl (fun _ => 0))), (q 36, .inl (E.2 0, 6, .inl (fun _ => 0))), (q 37, .inl (E.2 0, 6, .inl (fun _ => 0))), (q 38, .inl (E.2 0, 6, .inl (fun _ => 0))), (q 39, .inl (E.2 0, 6, .inl (fun _ => 0))), (q 40, .inl (E.2 0, 6, .inl (fun _ => 0)))] H := hP
    have hD : va_D A [(h0, .inr (12, mO q)), (q 24, .inl (E.2 1, 6, .inl (fun _ => 0))), (q 25, .inl (E.2 0, 6, .inl (fun _ => 0))), (q 19, .inl (E.2 0, 10, .inl (fun _ => 0))), (q 26, .inl (E.2 0, 6, .inl (fun _ => 0))), (q 33, .inl (E.2 0, 6, .inl (fun _ => 0))), (q 27, .inl (E.2 0, 6, .inl (fun _ => 0))), (q 28, .inl (E.2 0, 6, .inl (fun _ => 0))), (q 30, .inl (E.2 0, 6, .inl (fun _ => 0))), (q 31, .inl (E.2 0, 6, .inl (fun _ => 0))), (q 32, .inl (E.2 0, 6, .inl (fun _ => 0))), (q 34, .inl (E.2 0, 6, .inl (fun _ => 0))), (q 35, .inl (E.2 1, 6, .inl (fun _ => 0))), (q 36, .inl (E.2 0, 6, .inl (fun _ => 0))), (q 37, .inl (E.2 0, 6, .inl (fun _ => 0))), (q 38, .inl (E.2 0, 6, .inl (fun _ => 0))), (q 39, .inl (E.2 0, 6, .inl (fun _ => 0))), (q 40, .inl (E.2 0, 6, .inl (fun _ => 0)))] := hD
    refine lv_if_eq (tgt := 36) hx hb dX12_begin_11 (by decide) (fun c8 => ?_) (fun c8 => ?_)
    · have b9 : inR pt 0 9 = false := bz hw7 c8
      refine lv_bipush (v := (-2)) hx hb dX12_begin_36 (by decide) ?_
      have hP9 := hP.sub (ws' := []) [] rfl
      have hD9 := hD.sub (ws' := []) [] (by decide) rfl
      exact W.iret (v := (-2)) hx hb hr (fun t ht hW => ⟨⟨(-2), (), rfl, (by first | (rw [b5, b9]; done) | (rw [b5, b9]; rfl)), by rw [ht]; exact hP9, hD9⟩, hS.F ht⟩) hS.2.2 dX12_begin_38
    · have b10 : inR pt 0 9 = true := bn hw7 c8
      refine lv_iload_n hx hb dX12_begin_14 rfl (lv_at hl 3 rfl) ?_
      refine lv_iconst (v := 0) hx hb dX12_begin_15 (by decide) ?_
      refine lv_sipush (v := 499) hx hb dX12_begin_16 (by decide) ?_
      have hPc := hP.sub (ws' := []) [] rfl
      have hDc := hD.sub (ws' := []) [] (by decide) rfl
      have hFc := va_free (wc := []) hD hS hA [] rfl
      refine va_calli (va_runS (As := [.int day, .int 0, .int 499]) (rest := []) ⟨hx, hb, hml, hown, hts⟩ (c_X12_in l E day 0 499 H.size ) (va_cwS 3 hts gX12_begin_X12_in rfl rfl rfl (by decide +kernel) ⟨Nat.le_of_ble_eq_true rfl, Nat.le_of_ble_eq_true rfl⟩) ⟨pcW_blind, (pcW_pre hPc hkn hDc hst hS hFc)⟩ rfl rfl hl.1 rfl (lv_room (Nat.le_of_ble_eq_true rfl)) dX12_begin_19 ⟨Nat.le_of_ble_eq_true rfl, Nat.le_of_ble_eq_true rfl⟩) hS (fun q _ h => hFc q h) hFc (fun r11 u t H1 locs ht hvm hw12 hB hz1 hk1 hS => ?_)
      obtain ⟨hP1, hD1⟩ := hB
      rw [ht] at hP1
      try dsimp only at hw12
      obtain ⟨hP, hD⟩ := va_join (wr := [(h0, .inr (12, mO q)), (q 24, .inl (E.2 1, 6, .inl (fun _ => 0))), (q 25, .inl (E.2 0, 6, .inl (fun _ => 0))), (q 19, .inl (E.2 0, 10, .inl (fun _ => 0))), (q 26, .inl (E.2 0, 6, .inl (fun _ => 0))), (q 33, .inl (E.2 0, 6, .inl (fun _ => 0))), (q 27, .inl (E.2 0, 6, .inl (fun _ => 0))), (q 28, .inl (E.2 0, 6, .inl (fun _ => 0))), (q 30, .inl (E.2 0, 6, .inl (fun _ => 0))), (q 31, .inl (E.2 0, 6, .inl (fun _ => 0))), (q 32, .inl (E.2 0, 6, .inl (fun _ => 0))), (q 34, .inl (E.2 0, 6, .inl (fun _ => 0))), (q 35, .inl (E.2 1, 6, .inl (fun _ => 0))), (q 36, .inl (E.2 0, 6, .inl (fun _ => 0))), (q 37, .inl (E.2 0, 6, .inl (fun _ => 0))), (q 38, .inl (E.2 0, 6, .inl (fun _ => 0))), (q 39, .inl (E.2 0, 6, .inl (fun _ => 0))), (q 40, .inl (E.2 0, 6, .inl (fun _ => 0)))]) (w1 := []) hP hD [] [0, 1, 2, 3, 4, 5, 6, 7, 8, 9, 10, 11, 12, 13, 14, 15, 16, 17] rfl rfl (by decide) (by decide) hk1 hFc hP1 hD1
      generalize H1 = H at hP hS ⊢
      have hP : va_P E.1 vwCl [(h0, .inr (12, mO q)), (q 24, .inl (E.2 1, 6, .inl (fun _ => 0))), (q 25, .inl (E.2 0, 6, .inl (fun _ => 0))), (q 19, .inl (E.2 0, 10, .inl (fun _ => 0))), (q 26, .inl (E.2 0, 6, .inl (fun _ => 0))), (q 33, .inl (E.2 0, 6, .inl (fun _ => 0))), (q 27, .inl (E.2 0, 6, .inl (fun _ => 0))), (q 28, .inl (E.2 0, 6, .inl (fun _ => 0))), (q 30, .inl (E.2 0, 6, .inl (fun _ => 0))), (q 31, .inl (E.2 0, 6, .inl (fun _ => 0))), (q 32, .inl (E.2 0, 6, .inl (fun _ => 0))), (q 34, .inl (E.2 0, 6, .inl (fun _ => 0))), (q 35, .inl (E.2 1, 6, .inl (fun _ => 0))), (q 36, .inl (E.2 0, 6, .inl (fun _ => 0))), (q 37, .inl (E.2 0, 6, .inl (fun _ => 0))), (q 38, .inl (E.2 0, 6, .inl (fun _ => 0))), (q 39, .inl (E.2 0, 6, .inl (fun _ => 0))), (q 40, .inl (E.2 0, 6, .inl (fun _ => 0)))] H := hP
      have hD : va_D A [(h0, .inr (12, mO q)), (q 24, .inl (E.2 1, 6, .inl (fun _ => 0))), (q 25, .inl (E.2 0, 6, .inl (fun _ => 0))), (q 19, .inl (E.2 0, 10, .inl (fun _ => 0))), (q 26, .inl (E.2 0, 6, .inl (fun _ => 0))), (q 33, .inl (E.2 0, 6, .inl (fun _ => 0))), (q 27, .inl (E.2 0, 6, .inl (fun _ => 0))), (q 28, .inl (E.2 0, 6, .inl (fun _ => 0))), (q 30, .inl (E.2 0, 6, .inl (fun _ => 0))), (q 31, .inl (E.2 0, 6, .inl (fun _ => 0))), (q 32, .inl (E.2 0, 6, .inl (fun _ => 0))), (q 34, .inl (E.2 0, 6, .inl (fun _ => 0))), (q 35, .inl (E.2 1, 6, .inl (fun _ => 0))), (q 36, .inl (E.2 0, 6, .inl (fun _ => 0))), (q 37, .inl (E.2 0, 6, .inl (fun _ => 0))), (q 38, .inl (E.2 0, 6, .inl (fun _ => 0))), (q 39, .inl (E.2 0, 6, .inl (fun _ => 0))), (q 40, .inl (E.2 0, 6, .inl (fun _ => 0)))] := hD
      refine lv_if_eq (tgt := 36) hx hb dX12_begin_22 (by decide) (fun c13 => ?_) (fun c13 => ?_)
      · have b14 : inR day 0 499 = false := bz hw12 c13
        refine lv_bipush (v := (-2)) hx hb dX12_begin_36 (by decide) ?_
        have hP9 := hP.sub (ws' := []) [] rfl
        have hD9 := hD.sub (ws' := []) [] (by decide) rfl
        exact W.iret (v := (-2)) hx hb hr (fun t ht hW => ⟨⟨(-2), (), rfl, (by first | (rw [b5, b10, b14]; done) | (rw [b5, b10, b14]; rfl)), by rw [ht]; exact hP9, hD9⟩, hS.F ht⟩) hS.2.2 dX12_begin_38
      · have b15 : inR day 0 499 = true := bn hw12 c13
        refine lv_iload hx hb dX12_begin_25 (lv_at hl 4 rfl) ?_
        refine lv_iconst (v := 1) hx hb dX12_begin_27 (by decide) ?_
        refine lv_bipush (v := 9) hx hb dX12_begin_28 (by decide) ?_
        have hPc := hP.sub (ws' := []) [] rfl
        have hDc := hD.sub (ws' := []) [] (by decide) rfl
        have hFc := va_free (wc := []) hD hS hA [] rfl
        refine va_calli (va_runS (As := [.int crew, .int 1, .int 9]) (rest := []) ⟨hx, hb, hml, hown, hts⟩ (c_X12_in l E crew 1 9 H.size ) (va_cwS 3 hts gX12_begin_X12_in rfl rfl rfl (by decide +kernel) ⟨Nat.le_of_ble_eq_true rfl, Nat.le_of_ble_eq_true rfl⟩) ⟨pcW_blind, (pcW_pre hPc hkn hDc hst hS hFc)⟩ rfl rfl hl.1 rfl (lv_room (Nat.le_of_ble_eq_true rfl)) dX12_begin_30 ⟨Nat.le_of_ble_eq_true rfl, Nat.le_of_ble_eq_true rfl⟩) hS (fun q _ h => hFc q h) hFc (fun r16 u t H1 locs ht hvm hw17 hB hz1 hk1 hS => ?_)
        obtain ⟨hP1, hD1⟩ := hB
        rw [ht] at hP1
        try dsimp only at hw17
        obtain ⟨hP, hD⟩ := va_join (wr := [(h0, .inr (12, mO q)), (q 24, .inl (E.2 1, 6, .inl (fun _ => 0))), (q 25, .inl (E.2 0, 6, .inl (fun _ => 0))), (q 19, .inl (E.2 0, 10, .inl (fun _ => 0))), (q 26, .inl (E.2 0, 6, .inl (fun _ => 0))), (q 33, .inl (E.2 0, 6, .inl (fun _ => 0))), (q 27, .inl (E.2 0, 6, .inl (fun _ => 0))), (q 28, .inl (E.2 0, 6, .inl (fun _ => 0))), (q 30, .inl (E.2 0, 6, .inl (fun _ => 0))), (q 31, .inl (E.2 0, 6, .inl (fun _ => 0))), (q 32, .inl (E.2 0, 6, .inl (fun _ => 0))), (q 34, .inl (E.2 0, 6, .inl (fun _ => 0))), (q 35, .inl (E.2 1, 6, .inl (fun _ => 0))), (q 36, .inl (E.2 0, 6, .inl (fun _ => 0))), (q 37, .inl (E.2 0, 6, .inl (fun _ => 0))), (q 38, .inl (E.2 0, 6, .inl (fun _ => 0))), (q 39, .inl (E.2 0, 6, .inl (fun _ => 0))), (q 40, .inl (E.2 0, 6, .inl (fun _ => 0)))]) (w1 := []) hP hD [] [0, 1, 2, 3, 4, 5, 6, 7, 8, 9, 10, 11, 12, 13, 14, 15, 16, 17] rfl rfl (by decide) (by decide) hk1 hFc hP1 hD1
        generalize H1 = H at hP hS ⊢
        have hP : va_P E.1 vwCl [(h0, .inr (12, mO q)), (q 24, .inl (E.2 1, 6, .inl (fun _ => 0))), (q 25, .inl (E.2 0, 6, .inl (fun _ => 0))), (q 19, .inl (E.2 0, 10, .inl (fun _ => 0))), (q 26, .inl (E.2 0, 6, .inl (fun _ => 0))), (q 33, .inl (E.2 0, 6, .inl (fun _ => 0))), (q 27, .inl (E.2 0, 6, .inl (fun _ => 0))), (q 28, .inl (E.2 0, 6, .inl (fun _ => 0))), (q 30, .inl (E.2 0, 6, .inl (fun _ => 0))), (q 31, .inl (E.2 0, 6, .inl (fun _ => 0))), (q 32, .inl (E.2 0, 6, .inl (fun _ => 0))), (q 34, .inl (E.2 0, 6, .inl (fun _ => 0))), (q 35, .inl (E.2 1, 6, .inl (fun _ => 0))), (q 36, .inl (E.2 0, 6, .inl (fun _ => 0))), (q 37, .inl (E.2 0, 6, .inl (fun _ => 0))), (q 38, .inl (E.2 0, 6, .inl (fun _ => 0))), (q 39, .inl (E.2 0, 6, .inl (fun _ => 0))), (q 40, .inl (E.2 0, 6, .inl (fun _ => 0)))] H := hP
        have hD : va_D A [(h0, .inr (12, mO q)), (q 24, .inl (E.2 1, 6, .inl (fun _ => 0))), (q 25, .inl (E.2 0, 6, .inl (fun _ => 0))), (q 19, .inl (E.2 0, 10, .inl (fun _ => 0))), (q 26, .inl (E.2 0, 6, .inl (fun _ => 0))), (q 33, .inl (E.2 0, 6, .inl (fun _ => 0))), (q 27, .inl (E.2 0, 6, .inl (fun _ => 0))), (q 28, .inl (E.2 0, 6, .inl (fun _ => 0))), (q 30, .inl (E.2 0, 6, .inl (fun _ => 0))), (q 31, .inl (E.2 0, 6, .inl (fun _ => 0))), (q 32, .inl (E.2 0, 6, .inl (fun _ => 0))), (q 34, .inl (E.2 0, 6, .inl (fun _ => 0))), (q 35, .inl (E.2 1, 6, .inl (fun _ => 0))), (q 36, .inl (E.2 0, 6, .inl (fun _ => 0))), (q 37, .inl (E.2 0, 6, .inl (fun _ => 0))), (q 38, .inl (E.2 0, 6, .inl (fun _ => 0))), (q 39, .inl (E.2 0, 6, .inl (fun _ => 0))), (q 40, .inl (E.2 0, 6, .inl (fun _ => 0)))] := hD
        refine lv_if_ne (tgt := 39) hx hb dX12_begin_33 (by decide) (fun c18 => ?_) (fun c18 => ?_)
        · have b19 : inR crew 1 9 = true := bn hw17 c18
          refine lv_aload_n hx hb dX12_begin_39 rfl (lv_at hl 0 rfl) ?_
          refine va_get (D := E.1) (ci := 12) (v := .ref (q 24)) (C := RX12) (T := TX12) (N := 59) hx hb hts inX12 hown hK hP 0 rfl rfl 24 (by decide) fl54 (fun _ h9 => h9) rfl dX12_begin_40 ?_
          refine lv_iload_n hx hb dX12_begin_43 rfl (lv_at hl 1 rfl) ?_
          have hi20 : vp_in b 6 := inR_in (by decide) b5
          refine va_zald hx hb hK hP 1 1 rfl rfl hi20 dX12_begin_44 ?_
          refine lv_if_eq (tgt := 60) hx hb dX12_begin_45 (by decide) (fun _ => ?_) (fun c9 => absurd c9 (by decide))
          refine lv_aload_n hx hb dX12_begin_60 rfl (lv_at hl 0 rfl) ?_
          refine va_get (D := E.1) (ci := 12) (v := .ref (q 24)) (C := RX12) (T := TX12) (N := 59) hx hb hts inX12 hown hK hP 0 rfl rfl 24 (by decide) fl54 (fun _ h9 => h9) rfl dX12_begin_61 ?_
          refine lv_iload_n hx hb dX12_begin_64 rfl (lv_at hl 1 rfl) ?_
          refine lv_iconst (v := 1) hx hb dX12_begin_65 (by decide) ?_
          refine va_zast hx hb hK hP hD hS 1 1 rfl rfl hi20 dX12_begin_66 (fun H locs hP hD hS => ?_)
          have hP : va_P E.1 vwCl [(h0, .inr (12, mO q)), (q 24, .inl (E.2 1, 6, .inl (upd (fun _ => 0) b.toNatClampNeg (vp_nar .boolean 1)))), (q 25, .inl (E.2 0, 6, .inl (fun _ => 0))), (q 19, .inl (E.2 0, 10, .inl (fun _ => 0))), (q 26, .inl (E.2 0, 6, .inl (fun _ => 0))), (q 33, .inl (E.2 0, 6, .inl (fun _ => 0))), (q 27, .inl (E.2 0, 6, .inl (fun _ => 0))), (q 28, .inl (E.2 0, 6, .inl (fun _ => 0))), (q 30, .inl (E.2 0, 6, .inl (fun _ => 0))), (q 31, .inl (E.2 0, 6, .inl (fun _ => 0))), (q 32, .inl (E.2 0, 6, .inl (fun _ => 0))), (q 34, .inl (E.2 0, 6, .inl (fun _ => 0))), (q 35, .inl (E.2 1, 6, .inl (fun _ => 0))), (q 36, .inl (E.2 0, 6, .inl (fun _ => 0))), (q 37, .inl (E.2 0, 6, .inl (fun _ => 0))), (q 38, .inl (E.2 0, 6, .inl (fun _ => 0))), (q 39, .inl (E.2 0, 6, .inl (fun _ => 0))), (q 40, .inl (E.2 0, 6, .inl (fun _ => 0)))] H := hP
          have hD : va_D A [(h0, .inr (12, mO q)), (q 24, .inl (E.2 1, 6, .inl (upd (fun _ => 0) b.toNatClampNeg (vp_nar .boolean 1)))), (q 25, .inl (E.2 0, 6, .inl (fun _ => 0))), (q 19, .inl (E.2 0, 10, .inl (fun _ => 0))), (q 26, .inl (E.2 0, 6, .inl (fun _ => 0))), (q 33, .inl (E.2 0, 6, .inl (fun _ => 0))), (q 27, .inl (E.2 0, 6, .inl (fun _ => 0))), (q 28, .inl (E.2 0, 6, .inl (fun _ => 0))), (q 30, .inl (E.2 0, 6, .inl (fun _ => 0))), (q 31, .inl (E.2 0, 6, .inl (fun _ => 0))), (q 32, .inl (E.2 0, 6, .inl (fun _ => 0))), (q 34, .inl (E.2 0, 6, .inl (fun _ => 0))), (q 35, .inl (E.2 1, 6, .inl (fun _ => 0))), (q 36, .inl (E.2 0, 6, .inl (fun _ => 0))), (q 37, .inl (E.2 0, 6, .inl (fun _ => 0))), (q 38, .inl (E.2 0, 6, .inl (fun _ => 0))), (q 39, .inl (E.2 0, 6, .inl (fun _ => 0))), (q 40, .inl (E.2 0, 6, .inl (fun _ => 0)))] := hD
          obtain ⟨f21, ef21⟩ : ∃ g : Nat → Int32, g = upd (fun _ => 0) b.toNatClampNeg (vp_nar .boolean 1) := ⟨_, rfl⟩
          rw [← ef21] at hP hD
          refine lv_aload_n hx hb dX12_begin_67 rfl (lv_at hl 0 rfl) ?_
          refine va_get (D := E.1) (ci := 12) (v := .ref (q 25)) (C := RX12) (T := TX12) (N := 59) hx hb hts inX12 hown hK hP 0 rfl rfl 25 (by decide) fl58 (fun _ h9 => h9) rfl dX12_begin_68 ?_
          refine lv_iload_n hx hb dX12_begin_71 rfl (lv_at hl 1 rfl) ?_
          refine lv_iconst (v := 0) hx hb dX12_begin_72 (by decide) ?_
          refine va_iast hx hb hK hP hD hS 2 0 rfl rfl hi20 dX12_begin_73 (fun H locs hP hD hS => ?_)
          have hP : va_P E.1 vwCl [(h0, .inr (12, mO q)), (q 24, .inl (E.2 1, 6, .inl f21)), (q 25, .inl (E.2 0, 6, .inl (upd (fun _ => 0) b.toNatClampNeg 0))), (q 19, .inl (E.2 0, 10, .inl (fun _ => 0))), (q 26, .inl (E.2 0, 6, .inl (fun _ => 0))), (q 33, .inl (E.2 0, 6, .inl (fun _ => 0))), (q 27, .inl (E.2 0, 6, .inl (fun _ => 0))), (q 28, .inl (E.2 0, 6, .inl (fun _ => 0))), (q 30, .inl (E.2 0, 6, .inl (fun _ => 0))), (q 31, .inl (E.2 0, 6, .inl (fun _ => 0))), (q 32, .inl (E.2 0, 6, .inl (fun _ => 0))), (q 34, .inl (E.2 0, 6, .inl (fun _ => 0))), (q 35, .inl (E.2 1, 6, .inl (fun _ => 0))), (q 36, .inl (E.2 0, 6, .inl (fun _ => 0))), (q 37, .inl (E.2 0, 6, .inl (fun _ => 0))), (q 38, .inl (E.2 0, 6, .inl (fun _ => 0))), (q 39, .inl (E.2 0, 6, .inl (fun _ => 0))), (q 40, .inl (E.2 0, 6, .inl (fun _ => 0)))] H := hP
          have hD : va_D A [(h0, .inr (12, mO q)), (q 24, .inl (E.2 1, 6, .inl f21)), (q 25, .inl (E.2 0, 6, .inl (upd (fun _ => 0) b.toNatClampNeg 0))), (q 19, .inl (E.2 0, 10, .inl (fun _ => 0))), (q 26, .inl (E.2 0, 6, .inl (fun _ => 0))), (q 33, .inl (E.2 0, 6, .inl (fun _ => 0))), (q 27, .inl (E.2 0, 6, .inl (fun _ => 0))), (q 28, .inl (E.2 0, 6, .inl (fun _ => 0))), (q 30, .inl (E.2 0, 6, .inl (fun _ => 0))), (q 31, .inl (E.2 0, 6, .inl (fun _ => 0))), (q 32, .inl (E.2 0, 6, .inl (fun _ => 0))), (q 34, .inl (E.2 0, 6, .inl (fun _ => 0))), (q 35, .inl (E.2 1, 6, .inl (fun _ => 0))), (q 36, .inl (E.2 0, 6, .inl (fun _ => 0))), (q 37, .inl (E.2 0, 6, .inl (fun _ => 0))), (q 38, .inl (E.2 0, 6, .inl (fun _ => 0))), (q 39, .inl (E.2 0, 6, .inl (fun _ => 0))), (q 40, .inl (E.2 0, 6, .inl (fun _ => 0)))] := hD
          rw [upd_same] at hP hD
          have hP : va_P E.1 vwCl [(h0, .inr (12, mO q)), (q 24, .inl (E.2 1, 6, .inl f21)), (q 25, .inl (E.2 0, 6, .inl (fun _ => 0))), (q 19, .inl (E.2 0, 10, .inl (fun _ => 0))), (q 26, .inl (E.2 0, 6, .inl (fun _ => 0))), (q 33, .inl (E.2 0, 6, .inl (fun _ => 0))), (q 27, .inl (E.2 0, 6, .inl (fun _ => 0))), (q 28, .inl (E.2 0, 6, .inl (fun _ => 0))), (q 30, .inl (E.2 0, 6, .inl (fun _ => 0))), (q 31, .inl (E.2 0, 6, .inl (fun _ => 0))), (q 32, .inl (E.2 0, 6, .inl (fun _ => 0))), (q 34, .inl (E.2 0, 6, .inl (fun _ => 0))), (q 35, .inl (E.2 1, 6, .inl (fun _ => 0))), (q 36, .inl (E.2 0, 6, .inl (fun _ => 0))), (q 37, .inl (E.2 0, 6, .inl (fun _ => 0))), (q 38, .inl (E.2 0, 6, .inl (fun _ => 0))), (q 39, .inl (E.2 0, 6, .inl (fun _ => 0))), (q 40, .inl (E.2 0, 6, .inl (fun _ => 0)))] H := hP
          have hD : va_D A [(h0, .inr (12, mO q)), (q 24, .inl (E.2 1, 6, .inl f21)), (q 25, .inl (E.2 0, 6, .inl (fun _ => 0))), (q 19, .inl (E.2 0, 10, .inl (fun _ => 0))), (q 26, .inl (E.2 0, 6, .inl (fun _ => 0))), (q 33, .inl (E.2 0, 6, .inl (fun _ => 0))), (q 27, .inl (E.2 0, 6, .inl (fun _ => 0))), (q 28, .inl (E.2 0, 6, .inl (fun _ => 0))), (q 30, .inl (E.2 0, 6, .inl (fun _ => 0))), (q 31, .inl (E.2 0, 6, .inl (fun _ => 0))), (q 32, .inl (E.2 0, 6, .inl (fun _ => 0))), (q 34, .inl (E.2 0, 6, .inl (fun _ => 0))), (q 35, .inl (E.2 1, 6, .inl (fun _ => 0))), (q 36, .inl (E.2 0, 6, .inl (fun _ => 0))), (q 37, .inl (E.2 0, 6, .inl (fun _ => 0))), (q 38, .inl (E.2 0, 6, .inl (fun _ => 0))), (q 39, .inl (E.2 0, 6, .inl (fun _ => 0))), (q 40, .inl (E.2 0, 6, .inl (fun _ => 0)))] := hD
          refine lv_aload_n hx hb dX12_begin_74 rfl (lv_at hl 0 rfl) ?_
          refine va_get (D := E.1) (ci := 12) (v := .ref (q 26)) (C := RX12) (T := TX12) (N := 59) hx hb hts inX12 hown hK hP 0 rfl rfl 26 (by decide) fl61 (fun _ h9 => h9) rfl dX12_begin_75 ?_
          refine lv_iload_n hx hb dX12_begin_78 rfl (lv_at hl 1 rfl) ?_
          refine lv_aload_n hx hb dX12_begin_79 rfl (lv_at hl 0 rfl) ?_
          refine va_get (D := E.1) (ci := 12) (v := .ref (q 19)) (C := RX12) (T := TX12) (N := 59) hx hb hts inX12 hown hK hP 0 rfl rfl 19 (by decide) fl42 (fun _ h9 => h9) rfl dX12_begin_80 ?_
          refine lv_iload_n hx hb dX12_begin_83 rfl (lv_at hl 2 rfl) ?_
          have hi23 : vp_in pt 10 := inR_in (by decide) b10
          refine va_iald hx hb hK hP 3 0 rfl rfl hi23 dX12_begin_84 ?_
          refine va_iast hx hb hK hP hD hS 4 0 rfl rfl hi20 dX12_begin_85 (fun H locs hP hD hS => ?_)
          have hP : va_P E.1 vwCl [(h0, .inr (12, mO q)), (q 24, .inl (E.2 1, 6, .inl f21)), (q 25, .inl (E.2 0, 6, .inl (fun _ => 0))), (q 19, .inl (E.2 0, 10, .inl (fun _ => 0))), (q 26, .inl (E.2 0, 6, .inl (upd (fun _ => 0) b.toNatClampNeg 0))), (q 33, .inl (E.2 0, 6, .inl (fun _ => 0))), (q 27, .inl (E.2 0, 6, .inl (fun _ => 0))), (q 28, .inl (E.2 0, 6, .inl (fun _ => 0))), (q 30, .inl (E.2 0, 6, .inl (fun _ => 0))), (q 31, .inl (E.2 0, 6, .inl (fun _ => 0))), (q 32, .inl (E.2 0, 6, .inl (fun _ => 0))), (q 34, .inl (E.2 0, 6, .inl (fun _ => 0))), (q 35, .inl (E.2 1, 6, .inl (fun _ => 0))), (q 36, .inl (E.2 0, 6, .inl (fun _ => 0))), (q 37, .inl (E.2 0, 6, .inl (fun _ => 0))), (q 38, .inl (E.2 0, 6, .inl (fun _ => 0))), (q 39, .inl (E.2 0, 6, .inl (fun _ => 0))), (q 40, .inl (E.2 0, 6, .inl (fun _ => 0)))] H := hP
          have hD : va_D A [(h0, .inr (12, mO q)), (q 24, .inl (E.2 1, 6, .inl f21)), (q 25, .inl (E.2 0, 6, .inl (fun _ => 0))), (q 19, .inl (E.2 0, 10, .inl (fun _ => 0))), (q 26, .inl (E.2 0, 6, .inl (upd (fun _ => 0) b.toNatClampNeg 0))), (q 33, .inl (E.2 0, 6, .inl (fun _ => 0))), (q 27, .inl (E.2 0, 6, .inl (fun _ => 0))), (q 28, .inl (E.2 0, 6, .inl (fun _ => 0))), (q 30, .inl (E.2 0, 6, .inl (fun _ => 0))), (q 31, .inl (E.2 0, 6, .inl (fun _ => 0))), (q 32, .inl (E.2 0, 6, .inl (fun _ => 0))), (q 34, .inl (E.2 0, 6, .inl (fun _ => 0))), (q 35, .inl (E.2 1, 6, .inl (fun _ => 0))), (q 36, .inl (E.2 0, 6, .inl (fun _ => 0))), (q 37, .inl (E.2 0, 6, .inl (fun _ => 0))), (q 38, .inl (E.2 0, 6, .inl (fun _ => 0))), (q 39, .inl (E.2 0, 6, .inl (fun _ => 0))), (q 40, .inl (E.2 0, 6, .inl (fun _ => 0)))] := hD
          rw [upd_same] at hP hD
          have hP : va_P E.1 vwCl [(h0, .inr (12, mO q)), (q 24, .inl (E.2 1, 6, .inl f21)), (q 25, .inl (E.2 0, 6, .inl (fun _ => 0))), (q 19, .inl (E.2 0, 10, .inl (fun _ => 0))), (q 26, .inl (E.2 0, 6, .inl (fun _ => 0))), (q 33, .inl (E.2 0, 6, .inl (fun _ => 0))), (q 27, .inl (E.2 0, 6, .inl (fun _ => 0))), (q 28, .inl (E.2 0, 6, .inl (fun _ => 0))), (q 30, .inl (E.2 0, 6, .inl (fun _ => 0))), (q 31, .inl (E.2 0, 6, .inl (fun _ => 0))), (q 32, .inl (E.2 0, 6, .inl (fun _ => 0))), (q 34, .inl (E.2 0, 6, .inl (fun _ => 0))), (q 35, .inl (E.2 1, 6, .inl (fun _ => 0))), (q 36, .inl (E.2 0, 6, .inl (fun _ => 0))), (q 37, .inl (E.2 0, 6, .inl (fun _ => 0))), (q 38, .inl (E.2 0, 6, .inl (fun _ => 0))), (q 39, .inl (E.2 0, 6, .inl (fun _ => 0))), (q 40, .inl (E.2 0, 6, .inl (fun _ => 0)))] H := hP
          have hD : va_D A [(h0, .inr (12, mO q)), (q 24, .inl (E.2 1, 6, .inl f21)), (q 25, .inl (E.2 0, 6, .inl (fun _ => 0))), (q 19, .inl (E.2 0, 10, .inl (fun _ => 0))), (q 26, .inl (E.2 0, 6, .inl (fun _ => 0))), (q 33, .inl (E.2 0, 6, .inl (fun _ => 0))), (q 27, .inl (E.2 0, 6, .inl (fun _ => 0))), (q 28, .inl (E.2 0, 6, .inl (fun _ => 0))), (q 30, .inl (E.2 0, 6, .inl (fun _ => 0))), (q 31, .inl (E.2 0, 6, .inl (fun _ => 0))), (q 32, .inl (E.2 0, 6, .inl (fun _ => 0))), (q 34, .inl (E.2 0, 6, .inl (fun _ => 0))), (q 35, .inl (E.2 1, 6, .inl (fun _ => 0))), (q 36, .inl (E.2 0, 6, .inl (fun _ => 0))), (q 37, .inl (E.2 0, 6, .inl (fun _ => 0))), (q 38, .inl (E.2 0, 6, .inl (fun _ => 0))), (q 39, .inl (E.2 0, 6, .inl (fun _ => 0))), (q 40, .inl (E.2 0, 6, .inl (fun _ => 0)))] := hD
          refine lv_aload_n hx hb dX12_begin_86 rfl (lv_at hl 0 rfl) ?_
          refine va_get (D := E.1) (ci := 12) (v := .ref (q 33)) (C := RX12) (T := TX12) (N := 59) hx hb hts inX12 hown hK hP 0 rfl rfl 33 (by decide) fl82 (fun _ h9 => h9) rfl dX12_begin_87 ?_
          refine lv_iload_n hx hb dX12_begin_90 rfl (lv_at hl 1 rfl) ?_
          refine lv_aload_n hx hb dX12_begin_91 rfl (lv_at hl 0 rfl) ?_
          refine va_get (D := E.1) (ci := 12) (v := .ref (q 19)) (C := RX12) (T := TX12) (N := 59) hx hb hts inX12 hown hK hP 0 rfl rfl 19 (by decide) fl42 (fun _ h9 => h9) rfl dX12_begin_92 ?_
          refine lv_iload_n hx hb dX12_begin_95 rfl (lv_at hl 2 rfl) ?_
          refine va_iald hx hb hK hP 3 0 rfl rfl hi23 dX12_begin_96 ?_
          refine va_iast hx hb hK hP hD hS 5 0 rfl rfl hi20 dX12_begin_97 (fun H locs hP hD hS => ?_)
          have hP : va_P E.1 vwCl [(h0, .inr (12, mO q)), (q 24, .inl (E.2 1, 6, .inl f21)), (q 25, .inl (E.2 0, 6, .inl (fun _ => 0))), (q 19, .inl (E.2 0, 10, .inl (fun _ => 0))), (q 26, .inl (E.2 0, 6, .inl (fun _ => 0))), (q 33, .inl (E.2 0, 6, .inl (upd (fun _ => 0) b.toNatClampNeg 0))), (q 27, .inl (E.2 0, 6, .inl (fun _ => 0))), (q 28, .inl (E.2 0, 6, .inl (fun _ => 0))), (q 30, .inl (E.2 0, 6, .inl (fun _ => 0))), (q 31, .inl (E.2 0, 6, .inl (fun _ => 0))), (q 32, .inl (E.2 0, 6, .inl (fun _ => 0))), (q 34, .inl (E.2 0, 6, .inl (fun _ => 0))), (q 35, .inl (E.2 1, 6, .inl (fun _ => 0))), (q 36, .inl (E.2 0, 6, .inl (fun _ => 0))), (q 37, .inl (E.2 0, 6, .inl (fun _ => 0))), (q 38, .inl (E.2 0, 6, .inl (fun _ => 0))), (q 39, .inl (E.2 0, 6, .inl (fun _ => 0))), (q 40, .inl (E.2 0, 6, .inl (fun _ => 0)))] H := hP
          have hD : va_D A [(h0, .inr (12, mO q)), (q 24, .inl (E.2 1, 6, .inl f21)), (q 25, .inl (E.2 0, 6, .inl (fun _ => 0))), (q 19, .inl (E.2 0, 10, .inl (fun _ => 0))), (q 26, .inl (E.2 0, 6, .inl (fun _ => 0))), (q 33, .inl (E.2 0, 6, .inl (upd (fun _ => 0) b.toNatClampNeg 0))), (q 27, .inl (E.2 0, 6, .inl (fun _ => 0))), (q 28, .inl (E.2 0, 6, .inl (fun _ => 0))), (q 30, .inl (E.2 0, 6, .inl (fun _ => 0))), (q 31, .inl (E.2 0, 6, .inl (fun _ => 0))), (q 32, .inl (E.2 0, 6, .inl (fun _ => 0))), (q 34, .inl (E.2 0, 6, .inl (fun _ => 0))), (q 35, .inl (E.2 1, 6, .inl (fun _ => 0))), (q 36, .inl (E.2 0, 6, .inl (fun _ => 0))), (q 37, .inl (E.2 0, 6, .inl (fun _ => 0))), (q 38, .inl (E.2 0, 6, .inl (fun _ => 0))), (q 39, .inl (E.2 0, 6, .inl (fun _ => 0))), (q 40, .inl (E.2 0, 6, .inl (fun _ => 0)))] := hD
          rw [upd_same] at hP hD
          have hP : va_P E.1 vwCl [(h0, .inr (12, mO q)), (q 24, .inl (E.2 1, 6, .inl f21)), (q 25, .inl (E.2 0, 6, .inl (fun _ => 0))), (q 19, .inl (E.2 0, 10, .inl (fun _ => 0))), (q 26, .inl (E.2 0, 6, .inl (fun _ => 0))), (q 33, .inl (E.2 0, 6, .inl (fun _ => 0))), (q 27, .inl (E.2 0, 6, .inl (fun _ => 0))), (q 28, .inl (E.2 0, 6, .inl (fun _ => 0))), (q 30, .inl (E.2 0, 6, .inl (fun _ => 0))), (q 31, .inl (E.2 0, 6, .inl (fun _ => 0))), (q 32, .inl (E.2 0, 6, .inl (fun _ => 0))), (q 34, .inl (E.2 0, 6, .inl (fun _ => 0))), (q 35, .inl (E.2 1, 6, .inl (fun _ => 0))), (q 36, .inl (E.2 0, 6, .inl (fun _ => 0))), (q 37, .inl (E.2 0, 6, .inl (fun _ => 0))), (q 38, .inl (E.2 0, 6, .inl (fun _ => 0))), (q 39, .inl (E.2 0, 6, .inl (fun _ => 0))), (q 40, .inl (E.2 0, 6, .inl (fun _ => 0)))] H := hP
          have hD : va_D A [(h0, .inr (12, mO q)), (q 24, .inl (E.2 1, 6, .inl f21)), (q 25, .inl (E.2 0, 6, .inl (fun _ => 0))), (q 19, .inl (E.2 0, 10, .inl (fun _ => 0))), (q 26, .inl (E.2 0, 6, .inl (fun _ => 0))), (q 33, .inl (E.2 0, 6, .inl (fun _ => 0))), (q 27, .inl (E.2 0, 6, .inl (fun _ => 0))), (q 28, .inl (E.2 0, 6, .inl (fun _ => 0))), (q 30, .inl (E.2 0, 6, .inl (fun _ => 0))), (q 31, .inl (E.2 0, 6, .inl (fun _ => 0))), (q 32, .inl (E.2 0, 6, .inl (fun _ => 0))), (q 34, .inl (E.2 0, 6, .inl (fun _ => 0))), (q 35, .inl (E.2 1, 6, .inl (fun _ => 0))), (q 36, .inl (E.2 0, 6, .inl (fun _ => 0))), (q 37, .inl (E.2 0, 6, .inl (fun _ => 0))), (q 38, .inl (E.2 0, 6, .inl (fun _ => 0))), (q 39, .inl (E.2 0, 6, .inl (fun _ => 0))), (q 40, .inl (E.2 0, 6, .inl (fun _ => 0)))] := hD
          refine lv_aload_n hx hb dX12_begin_98 rfl (lv_at hl 0 rfl) ?_
          refine va_get (D := E.1) (ci := 12) (v := .ref (q 27)) (C := RX12) (T := TX12) (N := 59) hx hb hts inX12 hown hK hP 0 rfl rfl 27 (by decide) fl64 (fun _ h9 => h9) rfl dX12_begin_99 ?_
          refine lv_iload_n hx hb dX12_begin_102 rfl (lv_at hl 1 rfl) ?_
          refine lv_iload_n hx hb dX12_begin_103 rfl (lv_at hl 3 rfl) ?_
          refine va_iast hx hb hK hP hD hS 6 0 rfl rfl hi20 dX12_begin_104 (fun H locs hP hD hS => ?_)
          have hP : va_P E.1 vwCl [(h0, .inr (12, mO q)), (q 24, .inl (E.2 1, 6, .inl f21)), (q 25, .inl (E.2 0, 6, .inl (fun _ => 0))), (q 19, .inl (E.2 0, 10, .inl (fun _ => 0))), (q 26, .inl (E.2 0, 6, .inl (fun _ => 0))), (q 33, .inl (E.2 0, 6, .inl (fun _ => 0))), (q 27, .inl (E.2 0, 6, .inl (upd (fun _ => 0) b.toNatClampNeg day))), (q 28, .inl (E.2 0, 6, .inl (fun _ => 0))), (q 30, .inl (E.2 0, 6, .inl (fun _ => 0))), (q 31, .inl (E.2 0, 6, .inl (fun _ => 0))), (q 32, .inl (E.2 0, 6, .inl (fun _ => 0))), (q 34, .inl (E.2 0, 6, .inl (fun _ => 0))), (q 35, .inl (E.2 1, 6, .inl (fun _ => 0))), (q 36, .inl (E.2 0, 6, .inl (fun _ => 0))), (q 37, .inl (E.2 0, 6, .inl (fun _ => 0))), (q 38, .inl (E.2 0, 6, .inl (fun _ => 0))), (q 39, .inl (E.2 0, 6, .inl (fun _ => 0))), (q 40, .inl (E.2 0, 6, .inl (fun _ => 0)))] H := hP
          have hD : va_D A [(h0, .inr (12, mO q)), (q 24, .inl (E.2 1, 6, .inl f21)), (q 25, .inl (E.2 0, 6, .inl (fun _ => 0))), (q 19, .inl (E.2 0, 10, .inl (fun _ => 0))), (q 26, .inl (E.2 0, 6, .inl (fun _ => 0))), (q 33, .inl (E.2 0, 6, .inl (fun _ => 0))), (q 27, .inl (E.2 0, 6, .inl (upd (fun _ => 0) b.toNatClampNeg day))), (q 28, .inl (E.2 0, 6, .inl (fun _ => 0))), (q 30, .inl (E.2 0, 6, .inl (fun _ => 0))), (q 31, .inl (E.2 0, 6, .inl (fun _ => 0))), (q 32, .inl (E.2 0, 6, .inl (fun _ => 0))), (q 34, .inl (E.2 0, 6, .inl (fun _ => 0))), (q 35, .inl (E.2 1, 6, .inl (fun _ => 0))), (q 36, .inl (E.2 0, 6, .inl (fun _ => 0))), (q 37, .inl (E.2 0, 6, .inl (fun _ => 0))), (q 38, .inl (E.2 0, 6, .inl (fun _ => 0))), (q 39, .inl (E.2 0, 6, .inl (fun _ => 0))), (q 40, .inl (E.2 0, 6, .inl (fun _ => 0)))] := hD
          obtain ⟨f26, ef26⟩ : ∃ g : Nat → Int32, g = upd (fun _ => 0) b.toNatClampNeg day := ⟨_, rfl⟩
          rw [← ef26] at hP hD
          refine lv_aload_n hx hb dX12_begin_105 rfl (lv_at hl 0 rfl) ?_
          refine va_get (D := E.1) (ci := 12) (v := .ref (q 28)) (C := RX12) (T := TX12) (N := 59) hx hb hts inX12 hown hK hP 0 rfl rfl 28 (by decide) fl67 (fun _ h9 => h9) rfl dX12_begin_106 ?_
          refine lv_iload_n hx hb dX12_begin_109 rfl (lv_at hl 1 rfl) ?_
          refine lv_iload hx hb dX12_begin_110 (lv_at hl 4 rfl) ?_
          refine va_iast hx hb hK hP hD hS 7 0 rfl rfl hi20 dX12_begin_112 (fun H locs hP hD hS => ?_)
          have hP : va_P E.1 vwCl [(h0, .inr (12, mO q)), (q 24, .inl (E.2 1, 6, .inl f21)), (q 25, .inl (E.2 0, 6, .inl (fun _ => 0))), (q 19, .inl (E.2 0, 10, .inl (fun _ => 0))), (q 26, .inl (E.2 0, 6, .inl (fun _ => 0))), (q 33, .inl (E.2 0, 6, .inl (fun _ => 0))), (q 27, .inl (E.2 0, 6, .inl f26)), (q 28, .inl (E.2 0, 6, .inl (upd (fun _ => 0) b.toNatClampNeg crew))), (q 30, .inl (E.2 0, 6, .inl (fun _ => 0))), (q 31, .inl (E.2 0, 6, .inl (fun _ => 0))), (q 32, .inl (E.2 0, 6, .inl (fun _ => 0))), (q 34, .inl (E.2 0, 6, .inl (fun _ => 0))), (q 35, .inl (E.2 1, 6, .inl (fun _ => 0))), (q 36, .inl (E.2 0, 6, .inl (fun _ => 0))), (q 37, .inl (E.2 0, 6, .inl (fun _ => 0))), (q 38, .inl (E.2 0, 6, .inl (fun _ => 0))), (q 39, .inl (E.2 0, 6, .inl (fun _ => 0))), (q 40, .inl (E.2 0, 6, .inl (fun _ => 0)))] H := hP
          have hD : va_D A [(h0, .inr (12, mO q)), (q 24, .inl (E.2 1, 6, .inl f21)), (q 25, .inl (E.2 0, 6, .inl (fun _ => 0))), (q 19, .inl (E.2 0, 10, .inl (fun _ => 0))), (q 26, .inl (E.2 0, 6, .inl (fun _ => 0))), (q 33, .inl (E.2 0, 6, .inl (fun _ => 0))), (q 27, .inl (E.2 0, 6, .inl f26)), (q 28, .inl (E.2 0, 6, .inl (upd (fun _ => 0) b.toNatClampNeg crew))), (q 30, .inl (E.2 0, 6, .inl (fun _ => 0))), (q 31, .inl (E.2 0, 6, .inl (fun _ => 0))), (q 32, .inl (E.2 0, 6, .inl (fun _ => 0))), (q 34, .inl (E.2 0, 6, .inl (fun _ => 0))), (q 35, .inl (E.2 1, 6, .inl (fun _ => 0))), (q 36, .inl (E.2 0, 6, .inl (fun _ => 0))), (q 37, .inl (E.2 0, 6, .inl (fun _ => 0))), (q 38, .inl (E.2 0, 6, .inl (fun _ => 0))), (q 39, .inl (E.2 0, 6, .inl (fun _ => 0))), (q 40, .inl (E.2 0, 6, .inl (fun _ => 0)))] := hD
          obtain ⟨f27, ef27⟩ : ∃ g : Nat → Int32, g = upd (fun _ => 0) b.toNatClampNeg crew := ⟨_, rfl⟩
          rw [← ef27] at hP hD
          refine lv_aload_n hx hb dX12_begin_113 rfl (lv_at hl 0 rfl) ?_
          refine va_get (D := E.1) (ci := 12) (v := .ref (q 30)) (C := RX12) (T := TX12) (N := 59) hx hb hts inX12 hown hK hP 0 rfl rfl 30 (by decide) fl73 (fun _ h9 => h9) rfl dX12_begin_114 ?_
          refine lv_iload_n hx hb dX12_begin_117 rfl (lv_at hl 1 rfl) ?_
          refine lv_iconst (v := 0) hx hb dX12_begin_118 (by decide) ?_
          refine va_iast hx hb hK hP hD hS 8 0 rfl rfl hi20 dX12_begin_119 (fun H locs hP hD hS => ?_)
          have hP : va_P E.1 vwCl [(h0, .inr (12, mO q)), (q 24, .inl (E.2 1, 6, .inl f21)), (q 25, .inl (E.2 0, 6, .inl (fun _ => 0))), (q 19, .inl (E.2 0, 10, .inl (fun _ => 0))), (q 26, .inl (E.2 0, 6, .inl (fun _ => 0))), (q 33, .inl (E.2 0, 6, .inl (fun _ => 0))), (q 27, .inl (E.2 0, 6, .inl f26)), (q 28, .inl (E.2 0, 6, .inl f27)), (q 30, .inl (E.2 0, 6, .inl (upd (fun _ => 0) b.toNatClampNeg 0))), (q 31, .inl (E.2 0, 6, .inl (fun _ => 0))), (q 32, .inl (E.2 0, 6, .inl (fun _ => 0))), (q 34, .inl (E.2 0, 6, .inl (fun _ => 0))), (q 35, .inl (E.2 1, 6, .inl (fun _ => 0))), (q 36, .inl (E.2 0, 6, .inl (fun _ => 0))), (q 37, .inl (E.2 0, 6, .inl (fun _ => 0))), (q 38, .inl (E.2 0, 6, .inl (fun _ => 0))), (q 39, .inl (E.2 0, 6, .inl (fun _ => 0))), (q 40, .inl (E.2 0, 6, .inl (fun _ => 0)))] H := hP
          have hD : va_D A [(h0, .inr (12, mO q)), (q 24, .inl (E.2 1, 6, .inl f21)), (q 25, .inl (E.2 0, 6, .inl (fun _ => 0))), (q 19, .inl (E.2 0, 10, .inl (fun _ => 0))), (q 26, .inl (E.2 0, 6, .inl (fun _ => 0))), (q 33, .inl (E.2 0, 6, .inl (fun _ => 0))), (q 27, .inl (E.2 0, 6, .inl f26)), (q 28, .inl (E.2 0, 6, .inl f27)), (q 30, .inl (E.2 0, 6, .inl (upd (fun _ => 0) b.toNatClampNeg 0))), (q 31, .inl (E.2 0, 6, .inl (fun _ => 0))), (q 32, .inl (E.2 0, 6, .inl (fun _ => 0))), (q 34, .inl (E.2 0, 6, .inl (fun _ => 0))), (q 35, .inl (E.2 1, 6, .inl (fun _ => 0))), (q 36, .inl (E.2 0, 6, .inl (fun _ => 0))), (q 37, .inl (E.2 0, 6, .inl (fun _ => 0))), (q 38, .inl (E.2 0, 6, .inl (fun _ => 0))), (q 39, .inl (E.2 0, 6, .inl (fun _ => 0))), (q 40, .inl (E.2 0, 6, .inl (fun _ => 0)))] := hD
          rw [upd_same] at hP hD
          have hP : va_P E.1 vwCl [(h0, .inr (12, mO q)), (q 24, .inl (E.2 1, 6, .inl f21)), (q 25, .inl (E.2 0, 6, .inl (fun _ => 0))), (q 19, .inl (E.2 0, 10, .inl (fun _ => 0))), (q 26, .inl (E.2 0, 6, .inl (fun _ => 0))), (q 33, .inl (E.2 0, 6, .inl (fun _ => 0))), (q 27, .inl (E.2 0, 6, .inl f26)), (q 28, .inl (E.2 0, 6, .inl f27)), (q 30, .inl (E.2 0, 6, .inl (fun _ => 0))), (q 31, .inl (E.2 0, 6, .inl (fun _ => 0))), (q 32, .inl (E.2 0, 6, .inl (fun _ => 0))), (q 34, .inl (E.2 0, 6, .inl (fun _ => 0))), (q 35, .inl (E.2 1, 6, .inl (fun _ => 0))), (q 36, .inl (E.2 0, 6, .inl (fun _ => 0))), (q 37, .inl (E.2 0, 6, .inl (fun _ => 0))), (q 38, .inl (E.2 0, 6, .inl (fun _ => 0))), (q 39, .inl (E.2 0, 6, .inl (fun _ => 0))), (q 40, .inl (E.2 0, 6, .inl (fun _ => 0)))] H := hP
          have hD : va_D A [(h0, .inr (12, mO q)), (q 24, .inl (E.2 1, 6, .inl f21)), (q 25, .inl (E.2 0, 6, .inl (fun _ => 0))), (q 19, .inl (E.2 0, 10, .inl (fun _ => 0))), (q 26, .inl (E.2 0, 6, .inl (fun _ => 0))), (q 33, .inl (E.2 0, 6, .inl (fun _ => 0))), (q 27, .inl (E.2 0, 6, .inl f26)), (q 28, .inl (E.2 0, 6, .inl f27)), (q 30, .inl (E.2 0, 6, .inl (fun _ => 0))), (q 31, .inl (E.2 0, 6, .inl (fun _ => 0))), (q 32, .inl (E.2 0, 6, .inl (fun _ => 0))), (q 34, .inl (E.2 0, 6, .inl (fun _ => 0))), (q 35, .inl (E.2 1, 6, .inl (fun _ => 0))), (q 36, .inl (E.2 0, 6, .inl (fun _ => 0))), (q 37, .inl (E.2 0, 6, .inl (fun _ => 0))), (q 38, .inl (E.2 0, 6, .inl (fun _ => 0))), (q 39, .inl (E.2 0, 6, .inl (fun _ => 0))), (q 40, .inl (E.2 0, 6, .inl (fun _ => 0)))] := hD
          refine lv_aload_n hx hb dX12_begin_120 rfl (lv_at hl 0 rfl) ?_
          refine va_get (D := E.1) (ci := 12) (v := .ref (q 31)) (C := RX12) (T := TX12) (N := 59) hx hb hts inX12 hown hK hP 0 rfl rfl 31 (by decide) fl76 (fun _ h9 => h9) rfl dX12_begin_121 ?_
          refine lv_iload_n hx hb dX12_begin_124 rfl (lv_at hl 1 rfl) ?_
          refine lv_iconst (v := 0) hx hb dX12_begin_125 (by decide) ?_
          refine va_iast hx hb hK hP hD hS 9 0 rfl rfl hi20 dX12_begin_126 (fun H locs hP hD hS => ?_)
          have hP : va_P E.1 vwCl [(h0, .inr (12, mO q)), (q 24, .inl (E.2 1, 6, .inl f21)), (q 25, .inl (E.2 0, 6, .inl (fun _ => 0))), (q 19, .inl (E.2 0, 10, .inl (fun _ => 0))), (q 26, .inl (E.2 0, 6, .inl (fun _ => 0))), (q 33, .inl (E.2 0, 6, .inl (fun _ => 0))), (q 27, .inl (E.2 0, 6, .inl f26)), (q 28, .inl (E.2 0, 6, .inl f27)), (q 30, .inl (E.2 0, 6, .inl (fun _ => 0))), (q 31, .inl (E.2 0, 6, .inl (upd (fun _ => 0) b.toNatClampNeg 0))), (q 32, .inl (E.2 0, 6, .inl (fun _ => 0))), (q 34, .inl (E.2 0, 6, .inl (fun _ => 0))), (q 35, .inl (E.2 1, 6, .inl (fun _ => 0))), (q 36, .inl (E.2 0, 6, .inl (fun _ => 0))), (q 37, .inl (E.2 0, 6, .inl (fun _ => 0))), (q 38, .inl (E.2 0, 6, .inl (fun _ => 0))), (q 39, .inl (E.2 0, 6, .inl (fun _ => 0))), (q 40, .inl (E.2 0, 6, .inl (fun _ => 0)))] H := hP
          have hD : va_D A [(h0, .inr (12, mO q)), (q 24, .inl (E.2 1, 6, .inl f21)), (q 25, .inl (E.2 0, 6, .inl (fun _ => 0))), (q 19, .inl (E.2 0, 10, .inl (fun _ => 0))), (q 26, .inl (E.2 0, 6, .inl (fun _ => 0))), (q 33, .inl (E.2 0, 6, .inl (fun _ => 0))), (q 27, .inl (E.2 0, 6, .inl f26)), (q 28, .inl (E.2 0, 6, .inl f27)), (q 30, .inl (E.2 0, 6, .inl (fun _ => 0))), (q 31, .inl (E.2 0, 6, .inl (upd (fun _ => 0) b.toNatClampNeg 0))), (q 32, .inl (E.2 0, 6, .inl (fun _ => 0))), (q 34, .inl (E.2 0, 6, .inl (fun _ => 0))), (q 35, .inl (E.2 1, 6, .inl (fun _ => 0))), (q 36, .inl (E.2 0, 6, .inl (fun _ => 0))), (q 37, .inl (E.2 0, 6, .inl (fun _ => 0))), (q 38, .inl (E.2 0, 6, .inl (fun _ => 0))), (q 39, .inl (E.2 0, 6, .inl (fun _ => 0))), (q 40, .inl (E.2 0, 6, .inl (fun _ => 0)))] := hD
          rw [upd_same] at hP hD
          have hP : va_P E.1 vwCl [(h0, .inr (12, mO q)), (q 24, .inl (E.2 1, 6, .inl f21)), (q 25, .inl (E.2 0, 6, .inl (fun _ => 0))), (q 19, .inl (E.2 0, 10, .inl (fun _ => 0))), (q 26, .inl (E.2 0, 6, .inl (fun _ => 0))), (q 33, .inl (E.2 0, 6, .inl (fun _ => 0))), (q 27, .inl (E.2 0, 6, .inl f26)), (q 28, .inl (E.2 0, 6, .inl f27)), (q 30, .inl (E.2 0, 6, .inl (fun _ => 0))), (q 31, .inl (E.2 0, 6, .inl (fun _ => 0))), (q 32, .inl (E.2 0, 6, .inl (fun _ => 0))), (q 34, .inl (E.2 0, 6, .inl (fun _ => 0))), (q 35, .inl (E.2 1, 6, .inl (fun _ => 0))), (q 36, .inl (E.2 0, 6, .inl (fun _ => 0))), (q 37, .inl (E.2 0, 6, .inl (fun _ => 0))), (q 38, .inl (E.2 0, 6, .inl (fun _ => 0))), (q 39, .inl (E.2 0, 6, .inl (fun _ => 0))), (q 40, .inl (E.2 0, 6, .inl (fun _ => 0)))] H := hP
          have hD : va_D A [(h0, .inr (12, mO q)), (q 24, .inl (E.2 1, 6, .inl f21)), (q 25, .inl (E.2 0, 6, .inl (fun _ => 0))), (q 19, .inl (E.2 0, 10, .inl (fun _ => 0))), (q 26, .inl (E.2 0, 6, .inl (fun _ => 0))), (q 33, .inl (E.2 0, 6, .inl (fun _ => 0))), (q 27, .inl (E.2 0, 6, .inl f26)), (q 28, .inl (E.2 0, 6, .inl f27)), (q 30, .inl (E.2 0, 6, .inl (fun _ => 0))), (q 31, .inl (E.2 0, 6, .inl (fun _ => 0))), (q 32, .inl (E.2 0, 6, .inl (fun _ => 0))), (q 34, .inl (E.2 0, 6, .inl (fun _ => 0))), (q 35, .inl (E.2 1, 6, .inl (fun _ => 0))), (q 36, .inl (E.2 0, 6, .inl (fun _ => 0))), (q 37, .inl (E.2 0, 6, .inl (fun _ => 0))), (q 38, .inl (E.2 0, 6, .inl (fun _ => 0))), (q 39, .inl (E.2 0, 6, .inl (fun _ => 0))), (q 40, .inl (E.2 0, 6, .inl (fun _ => 0)))] := hD
          refine lv_aload_n hx hb dX12_begin_127 rfl (lv_at hl 0 rfl) ?_
          refine va_get (D := E.1) (ci := 12) (v := .ref (q 32)) (C := RX12) (T := TX12) (N := 59) hx hb hts inX12 hown hK hP 0 rfl rfl 32 (by decide) fl79 (fun _ h9 => h9) rfl dX12_begin_128 ?_
          refine lv_iload_n hx hb dX12_begin_131 rfl (lv_at hl 1 rfl) ?_
          refine lv_iconst (v := 0) hx hb dX12_begin_132 (by decide) ?_
          refine va_iast hx hb hK hP hD hS 10 0 rfl rfl hi20 dX12_begin_133 (fun H locs hP hD hS => ?_)
          have hP : va_P E.1 vwCl [(h0, .inr (12, mO q)), (q 24, .inl (E.2 1, 6, .inl f21)), (q 25, .inl (E.2 0, 6, .inl (fun _ => 0))), (q 19, .inl (E.2 0, 10, .inl (fun _ => 0))), (q 26, .inl (E.2 0, 6, .inl (fun _ => 0))), (q 33, .inl (E.2 0, 6, .inl (fun _ => 0))), (q 27, .inl (E.2 0, 6, .inl f26)), (q 28, .inl (E.2 0, 6, .inl f27)), (q 30, .inl (E.2 0, 6, .inl (fun _ => 0))), (q 31, .inl (E.2 0, 6, .inl (fun _ => 0))), (q 32, .inl (E.2 0, 6, .inl (upd (fun _ => 0) b.toNatClampNeg 0))), (q 34, .inl (E.2 0, 6, .inl (fun _ => 0))), (q 35, .inl (E.2 1, 6, .inl (fun _ => 0))), (q 36, .inl (E.2 0, 6, .inl (fun _ => 0))), (q 37, .inl (E.2 0, 6, .inl (fun _ => 0))), (q 38, .inl (E.2 0, 6, .inl (fun _ => 0))), (q 39, .inl (E.2 0, 6, .inl (fun _ => 0))), (q 40, .inl (E.2 0, 6, .inl (fun _ => 0)))] H := hP
          have hD : va_D A [(h0, .inr (12, mO q)), (q 24, .inl (E.2 1, 6, .inl f21)), (q 25, .inl (E.2 0, 6, .inl (fun _ => 0))), (q 19, .inl (E.2 0, 10, .inl (fun _ => 0))), (q 26, .inl (E.2 0, 6, .inl (fun _ => 0))), (q 33, .inl (E.2 0, 6, .inl (fun _ => 0))), (q 27, .inl (E.2 0, 6, .inl f26)), (q 28, .inl (E.2 0, 6, .inl f27)), (q 30, .inl (E.2 0, 6, .inl (fun _ => 0))), (q 31, .inl (E.2 0, 6, .inl (fun _ => 0))), (q 32, .inl (E.2 0, 6, .inl (upd (fun _ => 0) b.toNatClampNeg 0))), (q 34, .inl (E.2 0, 6, .inl (fun _ => 0))), (q 35, .inl (E.2 1, 6, .inl (fun _ => 0))), (q 36, .inl (E.2 0, 6, .inl (fun _ => 0))), (q 37, .inl (E.2 0, 6, .inl (fun _ => 0))), (q 38, .inl (E.2 0, 6, .inl (fun _ => 0))), (q 39, .inl (E.2 0, 6, .inl (fun _ => 0))), (q 40, .inl (E.2 0, 6, .inl (fun _ => 0)))] := hD
          rw [upd_same] at hP hD
          have hP : va_P E.1 vwCl [(h0, .inr (12, mO q)), (q 24, .inl (E.2 1, 6, .inl f21)), (q 25, .inl (E.2 0, 6, .inl (fun _ => 0))), (q 19, .inl (E.2 0, 10, .inl (fun _ => 0))), (q 26, .inl (E.2 0, 6, .inl (fun _ => 0))), (q 33, .inl (E.2 0, 6, .inl (fun _ => 0))), (q 27, .inl (E.2 0, 6, .inl f26)), (q 28, .inl (E.2 0, 6, .inl f27)), (q 30, .inl (E.2 0, 6, .inl (fun _ => 0))), (q 31, .inl (E.2 0, 6, .inl (fun _ => 0))), (q 32, .inl (E.2 0, 6, .inl (fun _ => 0))), (q 34, .inl (E.2 0, 6, .inl (fun _ => 0))), (q 35, .inl (E.2 1, 6, .inl (fun _ => 0))), (q 36, .inl (E.2 0, 6, .inl (fun _ => 0))), (q 37, .inl (E.2 0, 6, .inl (fun _ => 0))), (q 38, .inl (E.2 0, 6, .inl (fun _ => 0))), (q 39, .inl (E.2 0, 6, .inl (fun _ => 0))), (q 40, .inl (E.2 0, 6, .inl (fun _ => 0)))] H := hP
          have hD : va_D A [(h0, .inr (12, mO q)), (q 24, .inl (E.2 1, 6, .inl f21)), (q 25, .inl (E.2 0, 6, .inl (fun _ => 0))), (q 19, .inl (E.2 0, 10, .inl (fun _ => 0))), (q 26, .inl (E.2 0, 6, .inl (fun _ => 0))), (q 33, .inl (E.2 0, 6, .inl (fun _ => 0))), (q 27, .inl (E.2 0, 6, .inl f26)), (q 28, .inl (E.2 0, 6, .inl f27)), (q 30, .inl (E.2 0, 6, .inl (fun _ => 0))), (q 31, .inl (E.2 0, 6, .inl (fun _ => 0))), (q 32, .inl (E.2 0, 6, .inl (fun _ => 0))), (q 34, .inl (E.2 0, 6, .inl (fun _ => 0))), (q 35, .inl (E.2 1, 6, .inl (fun _ => 0))), (q 36, .inl (E.2 0, 6, .inl (fun _ => 0))), (q 37, .inl (E.2 0, 6, .inl (fun _ => 0))), (q 38, .inl (E.2 0, 6, .inl (fun _ => 0))), (q 39, .inl (E.2 0, 6, .inl (fun _ => 0))), (q 40, .inl (E.2 0, 6, .inl (fun _ => 0)))] := hD
          refine lv_aload_n hx hb dX12_begin_134 rfl (lv_at hl 0 rfl) ?_
          refine va_get (D := E.1) (ci := 12) (v := .ref (q 34)) (C := RX12) (T := TX12) (N := 59) hx hb hts inX12 hown hK hP 0 rfl rfl 34 (by decide) fl85 (fun _ h9 => h9) rfl dX12_begin_135 ?_
          refine lv_iload_n hx hb dX12_begin_138 rfl (lv_at hl 1 rfl) ?_
          refine lv_iconst (v := 0) hx hb dX12_begin_139 (by decide) ?_
          refine va_iast hx hb hK hP hD hS 11 0 rfl rfl hi20 dX12_begin_140 (fun H locs hP hD hS => ?_)
          have hP : va_P E.1 vwCl [(h0, .inr (12, mO q)), (q 24, .inl (E.2 1, 6, .inl f21)), (q 25, .inl (E.2 0, 6, .inl (fun _ => 0))), (q 19, .inl (E.2 0, 10, .inl (fun _ => 0))), (q 26, .inl (E.2 0, 6, .inl (fun _ => 0))), (q 33, .inl (E.2 0, 6, .inl (fun _ => 0))), (q 27, .inl (E.2 0, 6, .inl f26)), (q 28, .inl (E.2 0, 6, .inl f27)), (q 30, .inl (E.2 0, 6, .inl (fun _ => 0))), (q 31, .inl (E.2 0, 6, .inl (fun _ => 0))), (q 32, .inl (E.2 0, 6, .inl (fun _ => 0))), (q 34, .inl (E.2 0, 6, .inl (upd (fun _ => 0) b.toNatClampNeg 0))), (q 35, .inl (E.2 1, 6, .inl (fun _ => 0))), (q 36, .inl (E.2 0, 6, .inl (fun _ => 0))), (q 37, .inl (E.2 0, 6, .inl (fun _ => 0))), (q 38, .inl (E.2 0, 6, .inl (fun _ => 0))), (q 39, .inl (E.2 0, 6, .inl (fun _ => 0))), (q 40, .inl (E.2 0, 6, .inl (fun _ => 0)))] H := hP
          have hD : va_D A [(h0, .inr (12, mO q)), (q 24, .inl (E.2 1, 6, .inl f21)), (q 25, .inl (E.2 0, 6, .inl (fun _ => 0))), (q 19, .inl (E.2 0, 10, .inl (fun _ => 0))), (q 26, .inl (E.2 0, 6, .inl (fun _ => 0))), (q 33, .inl (E.2 0, 6, .inl (fun _ => 0))), (q 27, .inl (E.2 0, 6, .inl f26)), (q 28, .inl (E.2 0, 6, .inl f27)), (q 30, .inl (E.2 0, 6, .inl (fun _ => 0))), (q 31, .inl (E.2 0, 6, .inl (fun _ => 0))), (q 32, .inl (E.2 0, 6, .inl (fun _ => 0))), (q 34, .inl (E.2 0, 6, .inl (upd (fun _ => 0) b.toNatClampNeg 0))), (q 35, .inl (E.2 1, 6, .inl (fun _ => 0))), (q 36, .inl (E.2 0, 6, .inl (fun _ => 0))), (q 37, .inl (E.2 0, 6, .inl (fun _ => 0))), (q 38, .inl (E.2 0, 6, .inl (fun _ => 0))), (q 39, .inl (E.2 0, 6, .inl (fun _ => 0))), (q 40, .inl (E.2 0, 6, .inl (fun _ => 0)))] := hD
          rw [upd_same] at hP hD
          have hP : va_P E.1 vwCl [(h0, .inr (12, mO q)), (q 24, .inl (E.2 1, 6, .inl f21)), (q 25, .inl (E.2 0, 6, .inl (fun _ => 0))), (q 19, .inl (E.2 0, 10, .inl (fun _ => 0))), (q 26, .inl (E.2 0, 6, .inl (fun _ => 0))), (q 33, .inl (E.2 0, 6, .inl (fun _ => 0))), (q 27, .inl (E.2 0, 6, .inl f26)), (q 28, .inl (E.2 0, 6, .inl f27)), (q 30, .inl (E.2 0, 6, .inl (fun _ => 0))), (q 31, .inl (E.2 0, 6, .inl (fun _ => 0))), (q 32, .inl (E.2 0, 6, .inl (fun _ => 0))), (q 34, .inl (E.2 0, 6, .inl (fun _ => 0))), (q 35, .inl (E.2 1, 6, .inl (fun _ => 0))), (q 36, .inl (E.2 0, 6, .inl (fun _ => 0))), (q 37, .inl (E.2 0, 6, .inl (fun _ => 0))), (q 38, .inl (E.2 0, 6, .inl (fun _ => 0))), (q 39, .inl (E.2 0, 6, .inl (fun _ => 0))), (q 40, .inl (E.2 0, 6, .inl (fun _ => 0)))] H := hP
          have hD : va_D A [(h0, .inr (12, mO q)), (q 24, .inl (E.2 1, 6, .inl f21)), (q 25, .inl (E.2 0, 6, .inl (fun _ => 0))), (q 19, .inl (E.2 0, 10, .inl (fun _ => 0))), (q 26, .inl (E.2 0, 6, .inl (fun _ => 0))), (q 33, .inl (E.2 0, 6, .inl (fun _ => 0))), (q 27, .inl (E.2 0, 6, .inl f26)), (q 28, .inl (E.2 0, 6, .inl f27)), (q 30, .inl (E.2 0, 6, .inl (fun _ => 0))), (q 31, .inl (E.2 0, 6, .inl (fun _ => 0))), (q 32, .inl (E.2 0, 6, .inl (fun _ => 0))), (q 34, .inl (E.2 0, 6, .inl (fun _ => 0))), (q 35, .inl (E.2 1, 6, .inl (fun _ => 0))), (q 36, .inl (E.2 0, 6, .inl (fun _ => 0))), (q 37, .inl (E.2 0, 6, .inl (fun _ => 0))), (q 38, .inl (E.2 0, 6, .inl (fun _ => 0))), (q 39, .inl (E.2 0, 6, .inl (fun _ => 0))), (q 40, .inl (E.2 0, 6, .inl (fun _ => 0)))] := hD
          refine lv_aload_n hx hb dX12_begin_141 rfl (lv_at hl 0 rfl) ?_
          refine va_get (D := E.1) (ci := 12) (v := .ref (q 35)) (C := RX12) (T := TX12) (N := 59) hx hb hts inX12 hown hK hP 0 rfl rfl 35 (by decide) fl88 (fun _ h9 => h9) rfl dX12_begin_142 ?_
          refine lv_iload_n hx hb dX12_begin_145 rfl (lv_at hl 1 rfl) ?_
          refine lv_iconst (v := 0) hx hb dX12_begin_146 (by decide) ?_
          refine va_zast hx hb hK hP hD hS 12 1 rfl rfl hi20 dX12_begin_147 (fun H locs hP hD hS => ?_)
          have hP : va_P E.1 vwCl [(h0, .inr (12, mO q)), (q 24, .inl (E.2 1, 6, .inl f21)), (q 25, .inl (E.2 0, 6, .inl (fun _ => 0))), (q 19, .inl (E.2 0, 10, .inl (fun _ => 0))), (q 26, .inl (E.2 0, 6, .inl (fun _ => 0))), (q 33, .inl (E.2 0, 6, .inl (fun _ => 0))), (q 27, .inl (E.2 0, 6, .inl f26)), (q 28, .inl (E.2 0, 6, .inl f27)), (q 30, .inl (E.2 0, 6, .inl (fun _ => 0))), (q 31, .inl (E.2 0, 6, .inl (fun _ => 0))), (q 32, .inl (E.2 0, 6, .inl (fun _ => 0))), (q 34, .inl (E.2 0, 6, .inl (fun _ => 0))), (q 35, .inl (E.2 1, 6, .inl (upd (fun _ => 0) b.toNatClampNeg (vp_nar .boolean 0)))), (q 36, .inl (E.2 0, 6, .inl (fun _ => 0))), (q 37, .inl (E.2 0, 6, .inl (fun _ => 0))), (q 38, .inl (E.2 0, 6, .inl (fun _ => 0))), (q 39, .inl (E.2 0, 6, .inl (fun _ => 0))), (q 40, .inl (E.2 0, 6, .inl (fun _ => 0)))] H := hP
          have hD : va_D A [(h0, .inr (12, mO q)), (q 24, .inl (E.2 1, 6, .inl f21)), (q 25, .inl (E.2 0, 6, .inl (fun _ => 0))), (q 19, .inl (E.2 0, 10, .inl (fun _ => 0))), (q 26, .inl (E.2 0, 6, .inl (fun _ => 0))), (q 33, .inl (E.2 0, 6, .inl (fun _ => 0))), (q 27, .inl (E.2 0, 6, .inl f26)), (q 28, .inl (E.2 0, 6, .inl f27)), (q 30, .inl (E.2 0, 6, .inl (fun _ => 0))), (q 31, .inl (E.2 0, 6, .inl (fun _ => 0))), (q 32, .inl (E.2 0, 6, .inl (fun _ => 0))), (q 34, .inl (E.2 0, 6, .inl (fun _ => 0))), (q 35, .inl (E.2 1, 6, .inl (upd (fun _ => 0) b.toNatClampNeg (vp_nar .boolean 0)))), (q 36, .inl (E.2 0, 6, .inl (fun _ => 0))), (q 37, .inl (E.2 0, 6, .inl (fun _ => 0))), (q 38, .inl (E.2 0, 6, .inl (fun _ => 0))), (q 39, .inl (E.2 0, 6, .inl (fun _ => 0))), (q 40, .inl (E.2 0, 6, .inl (fun _ => 0)))] := hD
          obtain ⟨f32, ef32⟩ : ∃ g : Nat → Int32, g = upd (fun _ => 0) b.toNatClampNeg (vp_nar .boolean 0) := ⟨_, rfl⟩
          rw [← ef32] at hP hD
          refine lv_aload_n hx hb dX12_begin_148 rfl (lv_at hl 0 rfl) ?_
          refine va_get (D := E.1) (ci := 12) (v := .ref (q 36)) (C := RX12) (T := TX12) (N := 59) hx hb hts inX12 hown hK hP 0 rfl rfl 36 (by decide) fl91 (fun _ h9 => h9) rfl dX12_begin_149 ?_
          refine lv_iload_n hx hb dX12_begin_152 rfl (lv_at hl 1 rfl) ?_
          refine lv_iconst (v := 0) hx hb dX12_begin_153 (by decide) ?_
          refine va_iast hx hb hK hP hD hS 13 0 rfl rfl hi20 dX12_begin_154 (fun H locs hP hD hS => ?_)
          have hP : va_P E.1 vwCl [(h0, .inr (12, mO q)), (q 24, .inl (E.2 1, 6, .inl f21)), (q 25, .inl (E.2 0, 6, .inl (fun _ => 0))), (q 19, .inl (E.2 0, 10, .inl (fun _ => 0))), (q 26, .inl (E.2 0, 6, .inl (fun _ => 0))), (q 33, .inl (E.2 0, 6, .inl (fun _ => 0))), (q 27, .inl (E.2 0, 6, .inl f26)), (q 28, .inl (E.2 0, 6, .inl f27)), (q 30, .inl (E.2 0, 6, .inl (fun _ => 0))), (q 31, .inl (E.2 0, 6, .inl (fun _ => 0))), (q 32, .inl (E.2 0, 6, .inl (fun _ => 0))), (q 34, .inl (E.2 0, 6, .inl (fun _ => 0))), (q 35, .inl (E.2 1, 6, .inl f32)), (q 36, .inl (E.2 0, 6, .inl (upd (fun _ => 0) b.toNatClampNeg 0))), (q 37, .inl (E.2 0, 6, .inl (fun _ => 0))), (q 38, .inl (E.2 0, 6, .inl (fun _ => 0))), (q 39, .inl (E.2 0, 6, .inl (fun _ => 0))), (q 40, .inl (E.2 0, 6, .inl (fun _ => 0)))] H := hP
          have hD : va_D A [(h0, .inr (12, mO q)), (q 24, .inl (E.2 1, 6, .inl f21)), (q 25, .inl (E.2 0, 6, .inl (fun _ => 0))), (q 19, .inl (E.2 0, 10, .inl (fun _ => 0))), (q 26, .inl (E.2 0, 6, .inl (fun _ => 0))), (q 33, .inl (E.2 0, 6, .inl (fun _ => 0))), (q 27, .inl (E.2 0, 6, .inl f26)), (q 28, .inl (E.2 0, 6, .inl f27)), (q 30, .inl (E.2 0, 6, .inl (fun _ => 0))), (q 31, .inl (E.2 0, 6, .inl (fun _ => 0))), (q 32, .inl (E.2 0, 6, .inl (fun _ => 0))), (q 34, .inl (E.2 0, 6, .inl (fun _ => 0))), (q 35, .inl (E.2 1, 6, .inl f32)), (q 36, .inl (E.2 0, 6, .inl (upd (fun _ => 0) b.toNatClampNeg 0))), (q 37, .inl (E.2 0, 6, .inl (fun _ => 0))), (q 38, .inl (E.2 0, 6, .inl (fun _ => 0))), (q 39, .inl (E.2 0, 6, .inl (fun _ => 0))), (q 40, .inl (E.2 0, 6, .inl (fun _ => 0)))] := hD
          rw [upd_same] at hP hD
          have hP : va_P E.1 vwCl [(h0, .inr (12, mO q)), (q 24, .inl (E.2 1, 6, .inl f21)), (q 25, .inl (E.2 0, 6, .inl (fun _ => 0))), (q 19, .inl (E.2 0, 10, .inl (fun _ => 0))), (q 26, .inl (E.2 0, 6, .inl (fun _ => 0))), (q 33, .inl (E.2 0, 6, .inl (fun _ => 0))), (q 27, .inl (E.2 0, 6, .inl f26)), (q 28, .inl (E.2 0, 6, .inl f27)), (q 30, .inl (E.2 0, 6, .inl (fun _ => 0))), (q 31, .inl (E.2 0, 6, .inl (fun _ => 0))), (q 32, .inl (E.2 0, 6, .inl (fun _ => 0))), (q 34, .inl (E.2 0, 6, .inl (fun _ => 0))), (q 35, .inl (E.2 1, 6, .inl f32)), (q 36, .inl (E.2 0, 6, .inl (fun _ => 0))), (q 37, .inl (E.2 0, 6, .inl (fun _ => 0))), (q 38, .inl (E.2 0, 6, .inl (fun _ => 0))), (q 39, .inl (E.2 0, 6, .inl (fun _ => 0))), (q 40, .inl (E.2 0, 6, .inl (fun _ => 0)))] H := hP
          have hD : va_D A [(h0, .inr (12, mO q)), (q 24, .inl (E.2 1, 6, .inl f21)), (q 25, .inl (E.2 0, 6, .inl (fun _ => 0))), (q 19, .inl (E.2 0, 10, .inl (fun _ => 0))), (q 26, .inl (E.2 0, 6, .inl (fun _ => 0))), (q 33, .inl (E.2 0, 6, .inl (fun _ => 0))), (q 27, .inl (E.2 0, 6, .inl f26)), (q 28, .inl (E.2 0, 6, .inl f27)), (q 30, .inl (E.2 0, 6, .inl (fun _ => 0))), (q 31, .inl (E.2 0, 6, .inl (fun _ => 0))), (q 32, .inl (E.2 0, 6, .inl (fun _ => 0))), (q 34, .inl (E.2 0, 6, .inl (fun _ => 0))), (q 35, .inl (E.2 1, 6, .inl f32)), (q 36, .inl (E.2 0, 6, .inl (fun _ => 0))), (q 37, .inl (E.2 0, 6, .inl (fun _ => 0))), (q 38, .inl (E.2 0, 6, .inl (fun _ => 0))), (q 39, .inl (E.2 0, 6, .inl (fun _ => 0))), (q 40, .inl (E.2 0, 6, .inl (fun _ => 0)))] := hD
          refine lv_aload_n hx hb dX12_begin_155 rfl (lv_at hl 0 rfl) ?_
          refine va_get (D := E.1) (ci := 12) (v := .ref (q 37)) (C := RX12) (T := TX12) (N := 59) hx hb hts inX12 hown hK hP 0 rfl rfl 37 (by decide) fl94 (fun _ h9 => h9) rfl dX12_begin_156 ?_
          refine lv_iload_n hx hb dX12_begin_159 rfl (lv_at hl 1 rfl) ?_
          refine lv_iconst (v := 0) hx hb dX12_begin_160 (by decide) ?_
          refine va_iast hx hb hK hP hD hS 14 0 rfl rfl hi20 dX12_begin_161 (fun H locs hP hD hS => ?_)
          have hP : va_P E.1 vwCl [(h0, .inr (12, mO q)), (q 24, .inl (E.2 1, 6, .inl f21)), (q 25, .inl (E.2 0, 6, .inl (fun _ => 0))), (q 19, .inl (E.2 0, 10, .inl (fun _ => 0))), (q 26, .inl (E.2 0, 6, .inl (fun _ => 0))), (q 33, .inl (E.2 0, 6, .inl (fun _ => 0))), (q 27, .inl (E.2 0, 6, .inl f26)), (q 28, .inl (E.2 0, 6, .inl f27)), (q 30, .inl (E.2 0, 6, .inl (fun _ => 0))), (q 31, .inl (E.2 0, 6, .inl (fun _ => 0))), (q 32, .inl (E.2 0, 6, .inl (fun _ => 0))), (q 34, .inl (E.2 0, 6, .inl (fun _ => 0))), (q 35, .inl (E.2 1, 6, .inl f32)), (q 36, .inl (E.2 0, 6, .inl (fun _ => 0))), (q 37, .inl (E.2 0, 6, .inl (upd (fun _ => 0) b.toNatClampNeg 0))), (q 38, .inl (E.2 0, 6, .inl (fun _ => 0))), (q 39, .inl (E.2 0, 6, .inl (fun _ => 0))), (q 40, .inl (E.2 0, 6, .inl (fun _ => 0)))] H := hP
          have hD : va_D A [(h0, .inr (12, mO q)), (q 24, .inl (E.2 1, 6, .inl f21)), (q 25, .inl (E.2 0, 6, .inl (fun _ => 0))), (q 19, .inl (E.2 0, 10, .inl (fun _ => 0))), (q 26, .inl (E.2 0, 6, .inl (fun _ => 0))), (q 33, .inl (E.2 0, 6, .inl (fun _ => 0))), (q 27, .inl (E.2 0, 6, .inl f26)), (q 28, .inl (E.2 0, 6, .inl f27)), (q 30, .inl (E.2 0, 6, .inl (fun _ => 0))), (q 31, .inl (E.2 0, 6, .inl (fun _ => 0))), (q 32, .inl (E.2 0, 6, .inl (fun _ => 0))), (q 34, .inl (E.2 0, 6, .inl (fun _ => 0))), (q 35, .inl (E.2 1, 6, .inl f32)), (q 36, .inl (E.2 0, 6, .inl (fun _ => 0))), (q 37, .inl (E.2 0, 6, .inl (upd (fun _ => 0) b.toNatClampNeg 0))), (q 38, .inl (E.2 0, 6, .inl (fun _ => 0))), (q 39, .inl (E.2 0, 6, .inl (fun _ => 0))), (q 40, .inl (E.2 0, 6, .inl (fun _ => 0)))] := hD
          rw [upd_same] at hP hD
          have hP : va_P E.1 vwCl [(h0, .inr (12, mO q)), (q 24, .inl (E.2 1, 6, .inl f21)), (q 25, .inl (E.2 0, 6, .inl (fun _ => 0))), (q 19, .inl (E.2 0, 10, .inl (fun _ => 0))), (q 26, .inl (E.2 0, 6, .inl (fun _ => 0))), (q 33, .inl (E.2 0, 6, .inl (fun _ => 0))), (q 27, .inl (E.2 0, 6, .inl f26)), (q 28, .inl (E.2 0, 6, .inl f27)), (q 30, .inl (E.2 0, 6, .inl (fun _ => 0))), (q 31, .inl (E.2 0, 6, .inl (fun _ => 0))), (q 32, .inl (E.2 0, 6, .inl (fun _ => 0))), (q 34, .inl (E.2 0, 6, .inl (fun _ => 0))), (q 35, .inl (E.2 1, 6, .inl f32)), (q 36, .inl (E.2 0, 6, .inl (fun _ => 0))), (q 37, .inl (E.2 0, 6, .inl (fun _ => 0))), (q 38, .inl (E.2 0, 6, .inl (fun _ => 0))), (q 39, .inl (E.2 0, 6, .inl (fun _ => 0))), (q 40, .inl (E.2 0, 6, .inl (fun _ => 0)))] H := hP
          have hD : va_D A [(h0, .inr (12, mO q)), (q 24, .inl (E.2 1, 6, .inl f21)), (q 25, .inl (E.2 0, 6, .inl (fun _ => 0))), (q 19, .inl (E.2 0, 10, .inl (fun _ => 0))), (q 26, .inl (E.2 0, 6, .inl (fun _ => 0))), (q 33, .inl (E.2 0, 6, .inl (fun _ => 0))), (q 27, .inl (E.2 0, 6, .inl f26)), (q 28, .inl (E.2 0, 6, .inl f27)), (q 30, .inl (E.2 0, 6, .inl (fun _ => 0))), (q 31, .inl (E.2 0, 6, .inl (fun _ => 0))), (q 32, .inl (E.2 0, 6, .inl (fun _ => 0))), (q 34, .inl (E.2 0, 6, .inl (fun _ => 0))), (q 35, .inl (E.2 1, 6, .inl f32)), (q 36, .inl (E.2 0, 6, .inl (fun _ => 0))), (q 37, .inl (E.2 0, 6, .inl (fun _ => 0))), (q 38, .inl (E.2 0, 6, .inl (fun _ => 0))), (q 39, .inl (E.2 0, 6, .inl (fun _ => 0))), (q 40, .inl (E.2 0, 6, .inl (fun _ => 0)))] := hD
          refine lv_aload_n hx hb dX12_begin_162 rfl (lv_at hl 0 rfl) ?_
          refine va_get (D := E.1) (ci := 12) (v := .ref (q 38)) (C := RX12) (T := TX12) (N := 59) hx hb hts inX12 hown hK hP 0 rfl rfl 38 (by decide) fl97 (fun _ h9 => h9) rfl dX12_begin_163 ?_
          refine lv_iload_n hx hb dX12_begin_166 rfl (lv_at hl 1 rfl) ?_
          refine lv_iconst (v := 0) hx hb dX12_begin_167 (by decide) ?_
          refine va_iast hx hb hK hP hD hS 15 0 rfl rfl hi20 dX12_begin_168 (fun H locs hP hD hS => ?_)
          have hP : va_P E.1 vwCl [(h0, .inr (12, mO q)), (q 24, .inl (E.2 1, 6, .inl f21)), (q 25, .inl (E.2 0, 6, .inl (fun _ => 0))), (q 19, .inl (E.2 0, 10, .inl (fun _ => 0))), (q 26, .inl (E.2 0, 6, .inl (fun _ => 0))), (q 33, .inl (E.2 0, 6, .inl (fun _ => 0))), (q 27, .inl (E.2 0, 6, .inl f26)), (q 28, .inl (E.2 0, 6, .inl f27)), (q 30, .inl (E.2 0, 6, .inl (fun _ => 0))), (q 31, .inl (E.2 0, 6, .inl (fun _ => 0))), (q 32, .inl (E.2 0, 6, .inl (fun _ => 0))), (q 34, .inl (E.2 0, 6, .inl (fun _ => 0))), (q 35, .inl (E.2 1, 6, .inl f32)), (q 36, .inl (E.2 0, 6, .inl (fun _ => 0))), (q 37, .inl (E.2 0, 6, .inl (fun _ => 0))), (q 38, .inl (E.2 0, 6, .inl (upd (fun _ => 0) b.toNatClampNeg 0))), (q 39, .inl (E.2 0, 6, .inl (fun _ => 0))), (q 40, .inl (E.2 0, 6, .inl (fun _ => 0)))] H := hP
          have hD : va_D A [(h0, .inr (12, mO q)), (q 24, .inl (E.2 1, 6, .inl f21)), (q 25, .inl (E.2 0, 6, .inl (fun _ => 0))), (q 19, .inl (E.2 0, 10, .inl (fun _ => 0))), (q 26, .inl (E.2 0, 6, .inl (fun _ => 0))), (q 33, .inl (E.2 0, 6, .inl (fun _ => 0))), (q 27, .inl (E.2 0, 6, .inl f26)), (q 28, .inl (E.2 0, 6, .inl f27)), (q 30, .inl (E.2 0, 6, .inl (fun _ => 0))), (q 31, .inl (E.2 0, 6, .inl (fun _ => 0))), (q 32, .inl (E.2 0, 6, .inl (fun _ => 0))), (q 34, .inl (E.2 0, 6, .inl (fun _ => 0))), (q 35, .inl (E.2 1, 6, .inl f32)), (q 36, .inl (E.2 0, 6, .inl (fun _ => 0))), (q 37, .inl (E.2 0, 6, .inl (fun _ => 0))), (q 38, .inl (E.2 0, 6, .inl (upd (fun _ => 0) b.toNatClampNeg 0))), (q 39, .inl (E.2 0, 6, .inl (fun _ => 0))), (q 40, .inl (E.2 0, 6, .inl (fun _ => 0)))] := hD
          rw [upd_same] at hP hD
          have hP : va_P E.1 vwCl [(h0, .inr (12, mO q)), (q 24, .inl (E.2 1, 6, .inl f21)), (q 25, .inl (E.2 0, 6, .inl (fun _ => 0))), (q 19, .inl (E.2 0, 10, .inl (fun _ => 0))), (q 26, .inl (E.2 0, 6, .inl (fun _ => 0))), (q 33, .inl (E.2 0, 6, .inl (fun _ => 0))), (q 27, .inl (E.2 0, 6, .inl f26)), (q 28, .inl (E.2 0, 6, .inl f27)), (q 30, .inl (E.2 0, 6, .inl (fun _ => 0))), (q 31, .inl (E.2 0, 6, .inl (fun _ => 0))), (q 32, .inl (E.2 0, 6, .inl (fun _ => 0))), (q 34, .inl (E.2 0, 6, .inl (fun _ => 0))), (q 35, .inl (E.2 1, 6, .inl f32)), (q 36, .inl (E.2 0, 6, .inl (fun _ => 0))), (q 37, .inl (E.2 0, 6, .inl (fun _ => 0))), (q 38, .inl (E.2 0, 6, .inl (fun _ => 0))), (q 39, .inl (E.2 0, 6, .inl (fun _ => 0))), (q 40, .inl (E.2 0, 6, .inl (fun _ => 0)))] H := hP
          have hD : va_D A [(h0, .inr (12, mO q)), (q 24, .inl (E.2 1, 6, .inl f21)), (q 25, .inl (E.2 0, 6, .inl (fun _ => 0))), (q 19, .inl (E.2 0, 10, .inl (fun _ => 0))), (q 26, .inl (E.2 0, 6, .inl (fun _ => 0))), (q 33, .inl (E.2 0, 6, .inl (fun _ => 0))), (q 27, .inl (E.2 0, 6, .inl f26)), (q 28, .inl (E.2 0, 6, .inl f27)), (q 30, .inl (E.2 0, 6, .inl (fun _ => 0))), (q 31, .inl (E.2 0, 6, .inl (fun _ => 0))), (q 32, .inl (E.2 0, 6, .inl (fun _ => 0))), (q 34, .inl (E.2 0, 6, .inl (fun _ => 0))), (q 35, .inl (E.2 1, 6, .inl f32)), (q 36, .inl (E.2 0, 6, .inl (fun _ => 0))), (q 37, .inl (E.2 0, 6, .inl (fun _ => 0))), (q 38, .inl (E.2 0, 6, .inl (fun _ => 0))), (q 39, .inl (E.2 0, 6, .inl (fun _ => 0))), (q 40, .inl (E.2 0, 6, .inl (fun _ => 0)))] := hD
          refine lv_aload_n hx hb dX12_begin_169 rfl (lv_at hl 0 rfl) ?_
          refine va_get (D := E.1) (ci := 12) (v := .ref (q 39)) (C := RX12) (T := TX12) (N := 59) hx hb hts inX12 hown hK hP 0 rfl rfl 39 (by decide) fl100 (fun _ h9 => h9) rfl dX12_begin_170 ?_
          refine lv_iload_n hx hb dX12_begin_173 rfl (lv_at hl 1 rfl) ?_
          refine lv_iconst (v := 0) hx hb dX12_begin_174 (by decide) ?_
          refine va_iast hx hb hK hP hD hS 16 0 rfl rfl hi20 dX12_begin_175 (fun H locs hP hD hS => ?_)
          have hP : va_P E.1 vwCl [(h0, .inr (12, mO q)), (q 24, .inl (E.2 1, 6, .inl f21)), (q 25, .inl (E.2 0, 6, .inl (fun _ => 0))), (q 19, .inl (E.2 0, 10, .inl (fun _ => 0))), (q 26, .inl (E.2 0, 6, .inl (fun _ => 0))), (q 33, .inl (E.2 0, 6, .inl (fun _ => 0))), (q 27, .inl (E.2 0, 6, .inl f26)), (q 28, .inl (E.2 0, 6, .inl f27)), (q 30, .inl (E.2 0, 6, .inl (fun _ => 0))), (q 31, .inl (E.2 0, 6, .inl (fun _ => 0))), (q 32, .inl (E.2 0, 6, .inl (fun _ => 0))), (q 34, .inl (E.2 0, 6, .inl (fun _ => 0))), (q 35, .inl (E.2 1, 6, .inl f32)), (q 36, .inl (E.2 0, 6, .inl (fun _ => 0))), (q 37, .inl (E.2 0, 6, .inl (fun _ => 0))), (q 38, .inl (E.2 0, 6, .inl (fun _ => 0))), (q 39, .inl (E.2 0, 6, .inl (upd (fun _ => 0) b.toNatClampNeg 0))), (q 40, .inl (E.2 0, 6, .inl (fun _ => 0)))] H := hP
          have hD : va_D A [(h0, .inr (12, mO q)), (q 24, .inl (E.2 1, 6, .inl f21)), (q 25, .inl (E.2 0, 6, .inl (fun _ => 0))), (q 19, .inl (E.2 0, 10, .inl (fun _ => 0))), (q 26, .inl (E.2 0, 6, .inl (fun _ => 0))), (q 33, .inl (E.2 0, 6, .inl (fun _ => 0))), (q 27, .inl (E.2 0, 6, .inl f26)), (q 28, .inl (E.2 0, 6, .inl f27)), (q 30, .inl (E.2 0, 6, .inl (fun _ => 0))), (q 31, .inl (E.2 0, 6, .inl (fun _ => 0))), (q 32, .inl (E.2 0, 6, .inl (fun _ => 0))), (q 34, .inl (E.2 0, 6, .inl (fun _ => 0))), (q 35, .inl (E.2 1, 6, .inl f32)), (q 36, .inl (E.2 0, 6, .inl (fun _ => 0))), (q 37, .inl (E.2 0, 6, .inl (fun _ => 0))), (q 38, .inl (E.2 0, 6, .inl (fun _ => 0))), (q 39, .inl (E.2 0, 6, .inl (upd (fun _ => 0) b.toNatClampNeg 0))), (q 40, .inl (E.2 0, 6, .inl (fun _ => 0)))] := hD
          rw [upd_same] at hP hD
          have hP : va_P E.1 vwCl [(h0, .inr (12, mO q)), (q 24, .inl (E.2 1, 6, .inl f21)), (q 25, .inl (E.2 0, 6, .inl (fun _ => 0))), (q 19, .inl (E.2 0, 10, .inl (fun _ => 0))), (q 26, .inl (E.2 0, 6, .inl (fun _ => 0))), (q 33, .inl (E.2 0, 6, .inl (fun _ => 0))), (q 27, .inl (E.2 0, 6, .inl f26)), (q 28, .inl (E.2 0, 6, .inl f27)), (q 30, .inl (E.2 0, 6, .inl (fun _ => 0))), (q 31, .inl (E.2 0, 6, .inl (fun _ => 0))), (q 32, .inl (E.2 0, 6, .inl (fun _ => 0))), (q 34, .inl (E.2 0, 6, .inl (fun _ => 0))), (q 35, .inl (E.2 1, 6, .inl f32)), (q 36, .inl (E.2 0, 6, .inl (fun _ => 0))), (q 37, .inl (E.2 0, 6, .inl (fun _ => 0))), (q 38, .inl (E.2 0, 6, .inl (fun _ => 0))), (q 39, .inl (E.2 0, 6, .inl (fun _ => 0))), (q 40, .inl (E.2 0, 6, .inl (fun _ => 0)))] H := hP
          have hD : va_D A [(h0, .inr (12, mO q)), (q 24, .inl (E.2 1, 6, .inl f21)), (q 25, .inl (E.2 0, 6, .inl (fun _ => 0))), (q 19, .inl (E.2 0, 10, .inl (fun _ => 0))), (q 26, .inl (E.2 0, 6, .inl (fun _ => 0))), (q 33, .inl (E.2 0, 6, .inl (fun _ => 0))), (q 27, .inl (E.2 0, 6, .inl f26)), (q 28, .inl (E.2 0, 6, .inl f27)), (q 30, .inl (E.2 0, 6, .inl (fun _ => 0))), (q 31, .inl (E.2 0, 6, .inl (fun _ => 0))), (q 32, .inl (E.2 0, 6, .inl (fun _ => 0))), (q 34, .inl (E.2 0, 6, .inl (fun _ => 0))), (q 35, .inl (E.2 1, 6, .inl f32)), (q 36, .inl (E.2 0, 6, .inl (fun _ => 0))), (q 37, .inl (E.2 0, 6, .inl (fun _ => 0))), (q 38, .inl (E.2 0, 6, .inl (fun _ => 0))), (q 39, .inl (E.2 0, 6, .inl (fun _ => 0))), (q 40, .inl (E.2 0, 6, .inl (fun _ => 0)))] := hD
          refine lv_aload_n hx hb dX12_begin_176 rfl (lv_at hl 0 rfl) ?_
          refine va_get (D := E.1) (ci := 12) (v := .ref (q 40)) (C := RX12) (T := TX12) (N := 59) hx hb hts inX12 hown hK hP 0 rfl rfl 40 (by decide) fl103 (fun _ h9 => h9) rfl dX12_begin_177 ?_
          refine lv_iload_n hx hb dX12_begin_180 rfl (lv_at hl 1 rfl) ?_
          refine lv_iconst (v := (-1)) hx hb dX12_begin_181 (by decide) ?_
          refine va_iast hx hb hK hP hD hS 17 0 rfl rfl hi20 dX12_begin_182 (fun H locs hP hD hS => ?_)
          have hP : va_P E.1 vwCl [(h0, .inr (12, mO q)), (q 24, .inl (E.2 1, 6, .inl f21)), (q 25, .inl (E.2 0, 6, .inl (fun _ => 0))), (q 19, .inl (E.2 0, 10, .inl (fun _ => 0))), (q 26, .inl (E.2 0, 6, .inl (fun _ => 0))), (q 33, .inl (E.2 0, 6, .inl (fun _ => 0))), (q 27, .inl (E.2 0, 6, .inl f26)), (q 28, .inl (E.2 0, 6, .inl f27)), (q 30, .inl (E.2 0, 6, .inl (fun _ => 0))), (q 31, .inl (E.2 0, 6, .inl (fun _ => 0))), (q 32, .inl (E.2 0, 6, .inl (fun _ => 0))), (q 34, .inl (E.2 0, 6, .inl (fun _ => 0))), (q 35, .inl (E.2 1, 6, .inl f32)), (q 36, .inl (E.2 0, 6, .inl (fun _ => 0))), (q 37, .inl (E.2 0, 6, .inl (fun _ => 0))), (q 38, .inl (E.2 0, 6, .inl (fun _ => 0))), (q 39, .inl (E.2 0, 6, .inl (fun _ => 0))), (q 40, .inl (E.2 0, 6, .inl (upd (fun _ => 0) b.toNatClampNeg (-1))))] H := hP
          have hD : va_D A [(h0, .inr (12, mO q)), (q 24, .inl (E.2 1, 6, .inl f21)), (q 25, .inl (E.2 0, 6, .inl (fun _ => 0))), (q 19, .inl (E.2 0, 10, .inl (fun _ => 0))), (q 26, .inl (E.2 0, 6, .inl (fun _ => 0))), (q 33, .inl (E.2 0, 6, .inl (fun _ => 0))), (q 27, .inl (E.2 0, 6, .inl f26)), (q 28, .inl (E.2 0, 6, .inl f27)), (q 30, .inl (E.2 0, 6, .inl (fun _ => 0))), (q 31, .inl (E.2 0, 6, .inl (fun _ => 0))), (q 32, .inl (E.2 0, 6, .inl (fun _ => 0))), (q 34, .inl (E.2 0, 6, .inl (fun _ => 0))), (q 35, .inl (E.2 1, 6, .inl f32)), (q 36, .inl (E.2 0, 6, .inl (fun _ => 0))), (q 37, .inl (E.2 0, 6, .inl (fun _ => 0))), (q 38, .inl (E.2 0, 6, .inl (fun _ => 0))), (q 39, .inl (E.2 0, 6, .inl (fun _ => 0))), (q 40, .inl (E.2 0, 6, .inl (upd (fun _ => 0) b.toNatClampNeg (-1))))] := hD
          obtain ⟨f37, ef37⟩ : ∃ g : Nat → Int32, g = upd (fun _ => 0) b.toNatClampNeg (-1) := ⟨_, rfl⟩
          rw [← ef37] at hP hD
          refine lv_iconst (v := 1) hx hb dX12_begin_183 (by decide) ?_
          have hP9 := hP.sub (ws' := []) [] rfl
          have hD9 := hD.sub (ws' := []) [] (by decide) rfl
          exact W.iret (v := 1) hx hb hr (fun t ht hW => ⟨⟨1, (), rfl, (by first | (rw [b5, b10, b15, b19]; done) | (rw [b5, b10, b15, b19]; rfl)), by rw [ht]; exact hP9, hD9⟩, hS.F ht⟩) hS.2.2 dX12_begin_184
        · have b38 : inR crew 1 9 = false := bz hw17 c18
          refine lv_bipush (v := (-2)) hx hb dX12_begin_36 (by decide) ?_
          have hP9 := hP.sub (ws' := []) [] rfl
          have hD9 := hD.sub (ws' := []) [] (by decide) rfl
          exact W.iret (v := (-2)) hx hb hr (fun t ht hW => ⟨⟨(-2), (), rfl, (by first | (rw [b5, b10, b15, b38]; done) | (rw [b5, b10, b15, b38]; rfl)), by rw [ht]; exact hP9, hD9⟩, hS.F ht⟩) hS.2.2 dX12_begin_38
set_option maxHeartbeats 4000000 in
set_option maxRecDepth 100000 in
theorem c_X12_place (l : Launch) (E : vE) (h0 : Nat) (q : Nat → Nat) (b : Int32) (place : Int32) (sz : Nat) : Met l yX12_place wsX12_place ({ frames := 2, cells := 0, slots := 0, locals := 42 }) (pcW E [.ref h0, .int b, .int place] sz [(h0, .inr (12, mO q)), (q 24, .inl (E.2 1, 6, .inl (fun _ => 0)))]) (va_Qi (fun (r : Int32) (_ : Unit) => r = cond (inR b 0 5 && isPl place) (-4) (-2)) (fun (_ : Unit) (t : State) => wB E (va_A [(h0, .inr (12, mO q)), (q 24, .inl (E.2 1, 6, .inl (fun _ => 0)))] sz) [] t) (va_A [(h0, .inr (12, mO q)), (q 24, .inl (E.2 1, 6, .inl (fun _ => 0)))] sz)) 0 0 (va_A [(h0, .inr (12, mO q)), (q 24, .inl (E.2 1, 6, .inl (fun _ => 0)))] sz) := by
  refine Met.ofW (cc := cX12_place) (maxL := 3) (ret := (some .int)) (by decide) rfl ?_
  intro p e s m args below meth c s₁ B hml hv
  obtain ⟨rfl, hsz, hP, hkn, hD0, hst⟩ := hv
  have hx := B.exec
  have hb := B.bytes
  have hr := B.returns
  have hts := atoms_spec (ws := wsX12_place) B.pre
  have hown : s.vm.findClass RX12 = some m.cls := findClass_of_methodNamed B.named
  have hlocks := B.notSynchronized
  subst hsz
  have hD := hD0.self (sz := s.heap.size)
  have hK := hkn.1
  have hAO := hkn.2.2
  generalize hAe : va_A [(h0, .inr (12, mO q)), (q 24, .inl (E.2 1, 6, .inl (fun _ => 0)))] s.heap.size = A at hD hst ⊢
  have hA : ∀ q : Nat, s.heap.size ≤ q → A q := fun q h => by rw [← hAe]; exact Or.inr h
  have hS : va_S A s.heap s.heap [] := va_S.rf
  have hP : va_P E.1 vwCl [(h0, .inr (12, mO q)), (q 24, .inl (E.2 1, 6, .inl (fun _ => 0)))] s.heap := hP
  have hl := lv_entry ([.ref h0, .int b, .int place]) (n := 3) (Nat.le_of_ble_eq_true rfl)
  rw [lg_entry_eq]
  generalize (lg_sl ([.ref h0, .int b, .int place]) ++ List.replicate (3 - (lg_sl ([.ref h0, .int b, .int place])).length) Slot.unset).toArray = ls at hl ⊢
  have hl : lv_has ls 3 [(0, .ref h0), (1, .int b), (2, .int place)] := hl
  have fl54 := hts (.fieldLink RX12 54 "BoatsHomeModel" "begun" "[Z") (by decide +kernel)
  have fl58 := hts (.fieldLink RX12 58 "BoatsHomeModel" "state" "[I") (by decide +kernel)
  have fl70 := hts (.fieldLink RX12 70 "BoatsHomeModel" "way" "[I") (by decide +kernel)
  have fl76 := hts (.fieldLink RX12 76 "BoatsHomeModel" "wayEnd" "[I") (by decide +kernel)
  have fl79 := hts (.fieldLink RX12 79 "BoatsHomeModel" "watches" "[I") (by decide +kernel)
  have inX12 : ∀ w ∈ u_ws RX12 TX12 59, w ∈ wsX12_place := by decide +kernel
  refine lv_iload_n hx hb dX12_place_0 rfl (lv_at hl 1 rfl) ?_
  have hPc := hP.sub (ws' := []) [] rfl
  have hDc := hD.sub (ws' := []) [] (by decide) rfl
  have hFc := va_free (wc := []) hD hS hA [] rfl
  refine va_calli (va_runS (As := [.int b]) (rest := []) ⟨hx, hb, hml, hown, hts⟩ (c_X12_isBoat l E b s.heap.size ) (va_cwS 1 hts gX12_place_X12_isBoat rfl rfl rfl (by decide +kernel) ⟨Nat.le_of_ble_eq_true rfl, Nat.le_of_ble_eq_true rfl⟩) ⟨pcW_blind, (pcW_pre hPc hkn hDc hst hS hFc)⟩ rfl rfl hl.1 rfl (lv_room (Nat.le_of_ble_eq_true rfl)) dX12_place_1 ⟨Nat.le_of_ble_eq_true rfl, Nat.le_of_ble_eq_true rfl⟩) hS (fun q _ h => hFc q h) hFc (fun r1 u t H1 locs ht hvm hw2 hB hz1 hk1 hS => ?_)
  obtain ⟨hP1, hD1⟩ := hB
  rw [ht] at hP1
  try dsimp only at hw2
  obtain ⟨hP, hD⟩ := va_join (wr := [(h0, .inr (12, mO q)), (q 24, .inl (E.2 1, 6, .inl (fun _ => 0)))]) (w1 := []) hP hD [] [0, 1] rfl rfl (by decide) (by decide) hk1 hFc hP1 hD1
  generalize H1 = H at hP hS ⊢
  have hP : va_P E.1 vwCl [(h0, .inr (12, mO q)), (q 24, .inl (E.2 1, 6, .inl (fun _ => 0)))] H := hP
  have hD : va_D A [(h0, .inr (12, mO q)), (q 24, .inl (E.2 1, 6, .inl (fun _ => 0)))] := hD
  refine lv_if_eq (tgt := 14) hx hb dX12_place_4 (by decide) (fun c3 => ?_) (fun c3 => ?_)
  · have b4 : inR b 0 5 = false := bz hw2 c3
    refine lv_bipush (v := (-2)) hx hb dX12_place_14 (by decide) ?_
    have hP9 := hP.sub (ws' := []) [] rfl
    have hD9 := hD.sub (ws' := []) [] (by decide) rfl
    exact W.iret (v := (-2)) hx hb hr (fun t ht hW => ⟨⟨(-2), (), rfl, (by first | (rw [b4]; done) | (rw [b4]; rfl)), by rw [ht]; exact hP9, hD9⟩, hS.F ht⟩) hS.2.2 dX12_place_16
  · have b5 : inR b 0 5 = true := bn hw2 c3
    refine lv_iload_n hx hb dX12_place_7 rfl (lv_at hl 2 rfl) ?_
    have hPc := hP.sub (ws' := []) [] rfl
    have hDc := hD.sub (ws' := []) [] (by decide) rfl
    have hFc := va_free (wc := []) hD hS hA [] rfl
    refine va_calli (va_runS (As := [.int place]) (rest := []) ⟨hx, hb, hml, hown, hts⟩ (c_X12_isPlace l E place H.size ) (va_cwS 1 hts gX12_place_X12_isPlace rfl rfl rfl (by decide +kernel) ⟨Nat.le_of_ble_eq_true rfl, Nat.le_of_ble_eq_true rfl⟩) ⟨pcW_blind, (pcW_pre hPc hkn hDc hst hS hFc)⟩ rfl rfl hl.1 rfl (lv_room (Nat.le_of_ble_eq_true rfl)) dX12_place_8 ⟨Nat.le_of_ble_eq_true rfl, Nat.le_of_ble_eq_true rfl⟩) hS (fun q _ h => hFc q h) hFc (fun r6 u t H1 locs ht hvm hw7 hB hz1 hk1 hS => ?_)
    obtain ⟨hP1, hD1⟩ := hB
    rw [ht] at hP1
    try dsimp only at hw7
    obtain ⟨hP, hD⟩ := va_join (wr := [(h0, .inr (12, mO q)), (q 24, .inl (E.2 1, 6, .inl (fun _ => 0)))]) (w1 := []) hP hD [] [0, 1] rfl rfl (by decide) (by decide) hk1 hFc hP1 hD1
    generalize H1 = H at hP hS ⊢
    have hP : va_P E.1 vwCl [(h0, .inr (12, mO q)), (q 24, .inl (E.2 1, 6, .inl (fun _ => 0)))] H := hP
    have hD : va_D A [(h0, .inr (12, mO q)), (q 24, .inl (E.2 1, 6, .inl (fun _ => 0)))] := hD
    refine lv_if_ne (tgt := 17) hx hb dX12_place_11 (by decide) (fun c8 => ?_) (fun c8 => ?_)
    · have b9 : isPl place = true := bn hw7 c8
      refine lv_aload_n hx hb dX12_place_17 rfl (lv_at hl 0 rfl) ?_
      refine va_get (D := E.1) (ci := 12) (v := .ref (q 24)) (C := RX12) (T := TX12) (N := 59) hx hb hts inX12 hown hK hP 0 rfl rfl 24 (by decide) fl54 (fun _ h9 => h9) rfl dX12_place_18 ?_
      refine lv_iload_n hx hb dX12_place_21 rfl (lv_at hl 1 rfl) ?_
      have hi10 : vp_in b 6 := inR_in (by decide) b5
      refine va_zald hx hb hK hP 1 1 rfl rfl hi10 dX12_place_22 ?_
      refine lv_if_eq (tgt := 44) hx hb dX12_place_23 (by decide) (fun _ => ?_) (fun c9 => absurd c9 (by decide))
      refine lv_bipush (v := (-4)) hx hb dX12_place_44 (by decide) ?_
      have hP9 := hP.sub (ws' := []) [] rfl
      have hD9 := hD.sub (ws' := []) [] (by decide) rfl
      exact W.iret (v := (-4)) hx hb hr (fun t ht hW => ⟨⟨(-4), (), rfl, (by first | (rw [b5, b9]; done) | (rw [b5, b9]; rfl)), by rw [ht]; exact hP9, hD9⟩, hS.F ht⟩) hS.2.2 dX12_place_46
    · have b11 : isPl place = false := bz hw7 c8
      refine lv_bipush (v := (-2)) hx hb dX12_place_14 (by decide) ?_
      have hP9 := hP.sub (ws' := []) [] rfl
      have hD9 := hD.sub (ws' := []) [] (by decide) rfl
      exact W.iret (v := (-2)) hx hb hr (fun t ht hW => ⟨⟨(-2), (), rfl, (by first | (rw [b5, b11]; done) | (rw [b5, b11]; rfl)), by rw [ht]; exact hP9, hD9⟩, hS.F ht⟩) hS.2.2 dX12_place_16
set_option maxHeartbeats 4000000 in
set_option maxRecDepth 100000 in
theorem c_X12_sail (l : Launch) (E : vE) (h0 : Nat) (q : Nat → Nat) (b : Int32) (watches : Int32) (sz : Nat) : Met l yX12_sail wsX12_sail ({ frames := 2, cells := 0, slots := 0, locals := 42 }) (pcW E [.ref h0, .int b, .int watches] sz [(h0, .inr (12, mO q)), (q 24, .inl (E.2 1, 6, .inl (fun _ => 0)))]) (va_Qi (fun (r : Int32) (_ : Unit) => r = cond (inR b 0 5 && inR watches 1 400) (-4) (-2)) (fun (_ : Unit) (t : State) => wB E (va_A [(h0, .inr (12, mO q)), (q 24, .inl (E.2 1, 6, .inl (fun _ => 0)))] sz) [] t) (va_A [(h0, .inr (12, mO q)), (q 24, .inl (E.2 1, 6, .inl (fun _ => 0)))] sz)) 0 0 (va_A [(h0, .inr (12, mO q)), (q 24, .inl (E.2 1, 6, .inl (fun _ => 0)))] sz) := by
  refine Met.ofW (cc := cX12_sail) (maxL := 4) (ret := (some .int)) (by decide) rfl ?_
  intro p e s m args below meth c s₁ B hml hv
  obtain ⟨rfl, hsz, hP, hkn, hD0, hst⟩ := hv
  have hx := B.exec
  have hb := B.bytes
  have hr := B.returns
  have hts := atoms_spec (ws := wsX12_sail) B.pre
  have hown : s.vm.findClass RX12 = some m.cls := findClass_of_methodNamed B.named
  have hlocks := B.notSynchronized
  subst hsz
  have hD := hD0.self (sz := s.heap.size)
  have hK := hkn.1
  have hAO := hkn.2.2
  generalize hAe : va_A [(h0, .inr (12, mO q)), (q 24, .inl (E.2 1, 6, .inl (fun _ => 0)))] s.heap.size = A at hD hst ⊢
  have hA : ∀ q : Nat, s.heap.size ≤ q → A q := fun q h => by rw [← hAe]; exact Or.inr h
  have hS : va_S A s.heap s.heap [] := va_S.rf
  have hP : va_P E.1 vwCl [(h0, .inr (12, mO q)), (q 24, .inl (E.2 1, 6, .inl (fun _ => 0)))] s.heap := hP
  have hl := lv_entry ([.ref h0, .int b, .int watches]) (n := 4) (Nat.le_of_ble_eq_true rfl)
  rw [lg_entry_eq]
  generalize (lg_sl ([.ref h0, .int b, .int watches]) ++ List.replicate (4 - (lg_sl ([.ref h0, .int b, .int watches])).length) Slot.unset).toArray = ls at hl ⊢
  have hl : lv_has ls 4 [(0, .ref h0), (1, .int b), (2, .int watches)] := hl
  have fl54 := hts (.fieldLink RX12 54 "BoatsHomeModel" "begun" "[Z") (by decide +kernel)
  have fl58 := hts (.fieldLink RX12 58 "BoatsHomeModel" "state" "[I") (by decide +kernel)
  have fl76 := hts (.fieldLink RX12 76 "BoatsHomeModel" "wayEnd" "[I") (by decide +kernel)
  have fl280 := hts (.fieldLink RX12 280 "BoatsHomeModel" "worked" "I") (by decide +kernel)
  have inX12 : ∀ w ∈ u_ws RX12 TX12 59, w ∈ wsX12_sail := by decide +kernel
  refine lv_iload_n hx hb dX12_sail_0 rfl (lv_at hl 1 rfl) ?_
  have hPc := hP.sub (ws' := []) [] rfl
  have hDc := hD.sub (ws' := []) [] (by decide) rfl
  have hFc := va_free (wc := []) hD hS hA [] rfl
  refine va_calli (va_runS (As := [.int b]) (rest := []) ⟨hx, hb, hml, hown, hts⟩ (c_X12_isBoat l E b s.heap.size ) (va_cwS 1 hts gX12_sail_X12_isBoat rfl rfl rfl (by decide +kernel) ⟨Nat.le_of_ble_eq_true rfl, Nat.le_of_ble_eq_true rfl⟩) ⟨pcW_blind, (pcW_pre hPc hkn hDc hst hS hFc)⟩ rfl rfl hl.1 rfl (lv_room (Nat.le_of_ble_eq_true rfl)) dX12_sail_1 ⟨Nat.le_of_ble_eq_true rfl, Nat.le_of_ble_eq_true rfl⟩) hS (fun q _ h => hFc q h) hFc (fun r1 u t H1 locs ht hvm hw2 hB hz1 hk1 hS => ?_)
  obtain ⟨hP1, hD1⟩ := hB
  rw [ht] at hP1
  try dsimp only at hw2
  obtain ⟨hP, hD⟩ := va_join (wr := [(h0, .inr (12, mO q)), (q 24, .inl (E.2 1, 6, .inl (fun _ => 0)))]) (w1 := []) hP hD [] [0, 1] rfl rfl (by decide) (by decide) hk1 hFc hP1 hD1
  generalize H1 = H at hP hS ⊢
  have hP : va_P E.1 vwCl [(h0, .inr (12, mO q)), (q 24, .inl (E.2 1, 6, .inl (fun _ => 0)))] H := hP
  have hD : va_D A [(h0, .inr (12, mO q)), (q 24, .inl (E.2 1, 6, .inl (fun _ => 0)))] := hD
  refine lv_if_eq (tgt := 18) hx hb dX12_sail_4 (by decide) (fun c3 => ?_) (fun c3 => ?_)
  · have b4 : inR b 0 5 = false := bz hw2 c3
    refine lv_bipush (v := (-2)) hx hb dX12_sail_18 (by decide) ?_
    have hP9 := hP.sub (ws' := []) [] rfl
    have hD9 := hD.sub (ws' := []) [] (by decide) rfl
    exact W.iret (v := (-2)) hx hb hr (fun t ht hW => ⟨⟨(-2), (), rfl, (by first | (rw [b4]; done) | (rw [b4]; rfl)), by rw [ht]; exact hP9, hD9⟩, hS.F ht⟩) hS.2.2 dX12_sail_20
  · have b5 : inR b 0 5 = true := bn hw2 c3
    refine lv_iload_n hx hb dX12_sail_7 rfl (lv_at hl 2 rfl) ?_
    refine lv_iconst (v := 1) hx hb dX12_sail_8 (by decide) ?_
    refine lv_sipush (v := 400) hx hb dX12_sail_9 (by decide) ?_
    have hPc := hP.sub (ws' := []) [] rfl
    have hDc := hD.sub (ws' := []) [] (by decide) rfl
    have hFc := va_free (wc := []) hD hS hA [] rfl
    refine va_calli (va_runS (As := [.int watches, .int 1, .int 400]) (rest := []) ⟨hx, hb, hml, hown, hts⟩ (c_X12_in l E watches 1 400 H.size ) (va_cwS 3 hts gX12_sail_X12_in rfl rfl rfl (by decide +kernel) ⟨Nat.le_of_ble_eq_true rfl, Nat.le_of_ble_eq_true rfl⟩) ⟨pcW_blind, (pcW_pre hPc hkn hDc hst hS hFc)⟩ rfl rfl hl.1 rfl (lv_room (Nat.le_of_ble_eq_true rfl)) dX12_sail_12 ⟨Nat.le_of_ble_eq_true rfl, Nat.le_of_ble_eq_true rfl⟩) hS (fun q _ h => hFc q h) hFc (fun r6 u t H1 locs ht hvm hw7 hB hz1 hk1 hS => ?_)
    obtain ⟨hP1, hD1⟩ := hB
    rw [ht] at hP1
    try dsimp only at hw7
    obtain ⟨hP, hD⟩ := va_join (wr := [(h0, .inr (12, mO q)), (q 24, .inl (E.2 1, 6, .inl (fun _ => 0)))]) (w1 := []) hP hD [] [0, 1] rfl rfl (by decide) (by decide) hk1 hFc hP1 hD1
    generalize H1 = H at hP hS ⊢
    have hP : va_P E.1 vwCl [(h0, .inr (12, mO q)), (q 24, .inl (E.2 1, 6, .inl (fun _ => 0)))] H := hP
    have hD : va_D A [(h0, .inr (12, mO q)), (q 24, .inl (E.2 1, 6, .inl (fun _ => 0)))] := hD
    refine lv_if_ne (tgt := 21) hx hb dX12_sail_15 (by decide) (fun c8 => ?_) (fun c8 => ?_)
    · have b9 : inR watches 1 400 = true := bn hw7 c8
      refine lv_aload_n hx hb dX12_sail_21 rfl (lv_at hl 0 rfl) ?_
      refine va_get (D := E.1) (ci := 12) (v := .ref (q 24)) (C := RX12) (T := TX12) (N := 59) hx hb hts inX12 hown hK hP 0 rfl rfl 24 (by decide) fl54 (fun _ h9 => h9) rfl dX12_sail_22 ?_
      refine lv_iload_n hx hb dX12_sail_25 rfl (lv_at hl 1 rfl) ?_
      have hi10 : vp_in b 6 := inR_in (by decide) b5
      refine va_zald hx hb hK hP 1 1 rfl rfl hi10 dX12_sail_26 ?_
      refine lv_if_eq (tgt := 48) hx hb dX12_sail_27 (by decide) (fun _ => ?_) (fun c9 => absurd c9 (by decide))
      refine lv_bipush (v := (-4)) hx hb dX12_sail_48 (by decide) ?_
      have hP9 := hP.sub (ws' := []) [] rfl
      have hD9 := hD.sub (ws' := []) [] (by decide) rfl
      exact W.iret (v := (-4)) hx hb hr (fun t ht hW => ⟨⟨(-4), (), rfl, (by first | (rw [b5, b9]; done) | (rw [b5, b9]; rfl)), by rw [ht]; exact hP9, hD9⟩, hS.F ht⟩) hS.2.2 dX12_sail_50
    · have b11 : inR watches 1 400 = false := bz hw7 c8
      refine lv_bipush (v := (-2)) hx hb dX12_sail_18 (by decide) ?_
      have hP9 := hP.sub (ws' := []) [] rfl
      have hD9 := hD.sub (ws' := []) [] (by decide) rfl
      exact W.iret (v := (-2)) hx hb hr (fun t ht hW => ⟨⟨(-2), (), rfl, (by first | (rw [b5, b11]; done) | (rw [b5, b11]; rfl)), by rw [ht]; exact hP9, hD9⟩, hS.F ht⟩) hS.2.2 dX12_sail_20
set_option maxHeartbeats 4000000 in
set_option maxRecDepth 100000 in
theorem c_X12_passage (l : Launch) (E : vE) (h0 : Nat) (q : Nat → Nat) (b : Int32) (what : Int32) (sz : Nat) : Met l yX12_passage wsX12_passage ({ frames := 2, cells := 0, slots := 0, locals := 42 }) (pcW E [.ref h0, .int b, .int what] sz [(h0, .inr (12, mO q)), (q 24, .inl (E.2 1, 6, .inl (fun _ => 0)))]) (va_Qi (fun (r : Int32) (_ : Unit) => r = -9) (fun (_ : Unit) (t : State) => wB E (va_A [(h0, .inr (12, mO q)), (q 24, .inl (E.2 1, 6, .inl (fun _ => 0)))] sz) [] t) (va_A [(h0, .inr (12, mO q)), (q 24, .inl (E.2 1, 6, .inl (fun _ => 0)))] sz)) 0 0 (va_A [(h0, .inr (12, mO q)), (q 24, .inl (E.2 1, 6, .inl (fun _ => 0)))] sz) := by
  refine Met.ofW (cc := cX12_passage) (maxL := 3) (ret := (some .int)) (by decide) rfl ?_
  intro p e s m args below meth c s₁ B hml hv
  obtain ⟨rfl, hsz, hP, hkn, hD0, hst⟩ := hv
  have hx := B.exec
  have hb := B.bytes
  have hr := B.returns
  have hts := atoms_spec (ws := wsX12_passage) B.pre
  have hown : s.vm.findClass RX12 = some m.cls := findClass_of_methodNamed B.named
  have hlocks := B.notSynchronized
  subst hsz
  have hD := hD0.self (sz := s.heap.size)
  have hK := hkn.1
  have hAO := hkn.2.2
  generalize hAe : va_A [(h0, .inr (12, mO q)), (q 24, .inl (E.2 1, 6, .inl (fun _ => 0)))] s.heap.size = A at hD hst ⊢
  have hA : ∀ q : Nat, s.heap.size ≤ q → A q := fun q h => by rw [← hAe]; exact Or.inr h
  have hS : va_S A s.heap s.heap [] := va_S.rf
  have hP : va_P E.1 vwCl [(h0, .inr (12, mO q)), (q 24, .inl (E.2 1, 6, .inl (fun _ => 0)))] s.heap := hP
  have hl := lv_entry ([.ref h0, .int b, .int what]) (n := 3) (Nat.le_of_ble_eq_true rfl)
  rw [lg_entry_eq]
  generalize (lg_sl ([.ref h0, .int b, .int what]) ++ List.replicate (3 - (lg_sl ([.ref h0, .int b, .int what])).length) Slot.unset).toArray = ls at hl ⊢
  have hl : lv_has ls 3 [(0, .ref h0), (1, .int b), (2, .int what)] := hl
  have fl54 := hts (.fieldLink RX12 54 "BoatsHomeModel" "begun" "[Z") (by decide +kernel)
  have fl58 := hts (.fieldLink RX12 58 "BoatsHomeModel" "state" "[I") (by decide +kernel)
  have fl73 := hts (.fieldLink RX12 73 "BoatsHomeModel" "wayAt" "[I") (by decide +kernel)
  have fl76 := hts (.fieldLink RX12 76 "BoatsHomeModel" "wayEnd" "[I") (by decide +kernel)
  have fl79 := hts (.fieldLink RX12 79 "BoatsHomeModel" "watches" "[I") (by decide +kernel)
  have fl82 := hts (.fieldLink RX12 82 "BoatsHomeModel" "here" "[I") (by decide +kernel)
  have fl85 := hts (.fieldLink RX12 85 "BoatsHomeModel" "gone" "[I") (by decide +kernel)
  have fl88 := hts (.fieldLink RX12 88 "BoatsHomeModel" "turned" "[Z") (by decide +kernel)
  have fl91 := hts (.fieldLink RX12 91 "BoatsHomeModel" "cells" "[I") (by decide +kernel)
  have fl94 := hts (.fieldLink RX12 94 "BoatsHomeModel" "waited" "[I") (by decide +kernel)
  have fl97 := hts (.fieldLink RX12 97 "BoatsHomeModel" "bare" "[I") (by decide +kernel)
  have fl100 := hts (.fieldLink RX12 100 "BoatsHomeModel" "dry" "[I") (by decide +kernel)
  have fl103 := hts (.fieldLink RX12 103 "BoatsHomeModel" "firstBare" "[I") (by decide +kernel)
  have inX12 : ∀ w ∈ u_ws RX12 TX12 59, w ∈ wsX12_passage := by decide +kernel
  refine lv_iload_n hx hb dX12_passage_0 rfl (lv_at hl 1 rfl) ?_
  have hPc := hP.sub (ws' := []) [] rfl
  have hDc := hD.sub (ws' := []) [] (by decide) rfl
  have hFc := va_free (wc := []) hD hS hA [] rfl
  refine va_calli (va_runS (As := [.int b]) (rest := []) ⟨hx, hb, hml, hown, hts⟩ (c_X12_isBoat l E b s.heap.size ) (va_cwS 1 hts gX12_passage_X12_isBoat rfl rfl rfl (by decide +kernel) ⟨Nat.le_of_ble_eq_true rfl, Nat.le_of_ble_eq_true rfl⟩) ⟨pcW_blind, (pcW_pre hPc hkn hDc hst hS hFc)⟩ rfl rfl hl.1 rfl (lv_room (Nat.le_of_ble_eq_true rfl)) dX12_passage_1 ⟨Nat.le_of_ble_eq_true rfl, Nat.le_of_ble_eq_true rfl⟩) hS (fun q _ h => hFc q h) hFc (fun r1 u t H1 locs ht hvm hw2 hB hz1 hk1 hS => ?_)
  obtain ⟨hP1, hD1⟩ := hB
  rw [ht] at hP1
  try dsimp only at hw2
  obtain ⟨hP, hD⟩ := va_join (wr := [(h0, .inr (12, mO q)), (q 24, .inl (E.2 1, 6, .inl (fun _ => 0)))]) (w1 := []) hP hD [] [0, 1] rfl rfl (by decide) (by decide) hk1 hFc hP1 hD1
  generalize H1 = H at hP hS ⊢
  have hP : va_P E.1 vwCl [(h0, .inr (12, mO q)), (q 24, .inl (E.2 1, 6, .inl (fun _ => 0)))] H := hP
  have hD : va_D A [(h0, .inr (12, mO q)), (q 24, .inl (E.2 1, 6, .inl (fun _ => 0)))] := hD
  refine lv_if_eq (tgt := 16) hx hb dX12_passage_4 (by decide) (fun c3 => ?_) (fun c3 => ?_)
  · have b4 : inR b 0 5 = false := bz hw2 c3
    refine lv_bipush (v := (-9)) hx hb dX12_passage_16 (by decide) ?_
    have hP9 := hP.sub (ws' := []) [] rfl
    have hD9 := hD.sub (ws' := []) [] (by decide) rfl
    exact W.iret (v := (-9)) hx hb hr (fun t ht hW => ⟨⟨(-9), (), rfl, rfl, by rw [ht]; exact hP9, hD9⟩, hS.F ht⟩) hS.2.2 dX12_passage_18
  · have b5 : inR b 0 5 = true := bn hw2 c3
    refine lv_aload_n hx hb dX12_passage_7 rfl (lv_at hl 0 rfl) ?_
    refine va_get (D := E.1) (ci := 12) (v := .ref (q 24)) (C := RX12) (T := TX12) (N := 59) hx hb hts inX12 hown hK hP 0 rfl rfl 24 (by decide) fl54 (fun _ h9 => h9) rfl dX12_passage_8 ?_
    refine lv_iload_n hx hb dX12_passage_11 rfl (lv_at hl 1 rfl) ?_
    have hi6 : vp_in b 6 := inR_in (by decide) b5
    refine va_zald hx hb hK hP 1 1 rfl rfl hi6 dX12_passage_12 ?_
    refine lv_if_ne (tgt := 19) hx hb dX12_passage_13 (by decide) (fun c9 => absurd c9 (by decide)) (fun _ => ?_)
    refine lv_bipush (v := (-9)) hx hb dX12_passage_16 (by decide) ?_
    have hP9 := hP.sub (ws' := []) [] rfl
    have hD9 := hD.sub (ws' := []) [] (by decide) rfl
    exact W.iret (v := (-9)) hx hb hr (fun t ht hW => ⟨⟨(-9), (), rfl, rfl, by rw [ht]; exact hP9, hD9⟩, hS.F ht⟩) hS.2.2 dX12_passage_18
set_option maxHeartbeats 4000000 in
set_option maxRecDepth 100000 in
theorem c_X12_pay (l : Launch) (E : vE) (h0 : Nat) (q : Nat → Nat) (b : Int32) (kind : Int32) (sum : Int32) (less : Int32) (more : Int32) (sz : Nat) : Met l yX12_pay wsX12_pay ({ frames := 2, cells := 0, slots := 0, locals := 42 }) (pcW E [.ref h0, .int b, .int kind, .int sum, .int less, .int more] sz [(h0, .inr (12, mO q)), (q 24, .inl (E.2 1, 6, .inl (fun _ => 0)))]) (va_Qi (fun (r : Int32) (_ : Unit) => r = cond (inR b 0 5 && inR kind 0 1 && inR sum 0 100000 && inR less 0 1000 && inR more 0 1000) (-2000000001) (-2000000000)) (fun (_ : Unit) (t : State) => wB E (va_A [(h0, .inr (12, mO q)), (q 24, .inl (E.2 1, 6, .inl (fun _ => 0)))] sz) [] t) (va_A [(h0, .inr (12, mO q)), (q 24, .inl (E.2 1, 6, .inl (fun _ => 0)))] sz)) 0 0 (va_A [(h0, .inr (12, mO q)), (q 24, .inl (E.2 1, 6, .inl (fun _ => 0)))] sz) := by
  refine Met.ofW (cc := cX12_pay) (maxL := 7) (ret := (some .int)) (by decide) rfl ?_
  intro p e s m args below meth c s₁ B hml hv
  obtain ⟨rfl, hsz, hP, hkn, hD0, hst⟩ := hv
  have hx := B.exec
  have hb := B.bytes
  have hr := B.returns
  have hts := atoms_spec (ws := wsX12_pay) B.pre
  have hown : s.vm.findClass RX12 = some m.cls := findClass_of_methodNamed B.named
  have hlocks := B.notSynchronized
  subst hsz
  have hD := hD0.self (sz := s.heap.size)
  have hK := hkn.1
  have hAO := hkn.2.2
  generalize hAe : va_A [(h0, .inr (12, mO q)), (q 24, .inl (E.2 1, 6, .inl (fun _ => 0)))] s.heap.size = A at hD hst ⊢
  have hA : ∀ q : Nat, s.heap.size ≤ q → A q := fun q h => by rw [← hAe]; exact Or.inr h
  have hS : va_S A s.heap s.heap [] := va_S.rf
  have hP : va_P E.1 vwCl [(h0, .inr (12, mO q)), (q 24, .inl (E.2 1, 6, .inl (fun _ => 0)))] s.heap := hP
  have hl := lv_entry ([.ref h0, .int b, .int kind, .int sum, .int less, .int more]) (n := 7) (Nat.le_of_ble_eq_true rfl)
  rw [lg_entry_eq]
  generalize (lg_sl ([.ref h0, .int b, .int kind, .int sum, .int less, .int more]) ++ List.replicate (7 - (lg_sl ([.ref h0, .int b, .int kind, .int sum, .int less, .int more])).length) Slot.unset).toArray = ls at hl ⊢
  have hl : lv_has ls 7 [(0, .ref h0), (1, .int b), (2, .int kind), (3, .int sum), (4, .int less), (5, .int more)] := hl
  have fl54 := hts (.fieldLink RX12 54 "BoatsHomeModel" "begun" "[Z") (by decide +kernel)
  have fl58 := hts (.fieldLink RX12 58 "BoatsHomeModel" "state" "[I") (by decide +kernel)
  have fl79 := hts (.fieldLink RX12 79 "BoatsHomeModel" "watches" "[I") (by decide +kernel)
  have fl88 := hts (.fieldLink RX12 88 "BoatsHomeModel" "turned" "[Z") (by decide +kernel)
  have fl97 := hts (.fieldLink RX12 97 "BoatsHomeModel" "bare" "[I") (by decide +kernel)
  have fl100 := hts (.fieldLink RX12 100 "BoatsHomeModel" "dry" "[I") (by decide +kernel)
  have inX12 : ∀ w ∈ u_ws RX12 TX12 59, w ∈ wsX12_pay := by decide +kernel
  refine lv_iload_n hx hb dX12_pay_0 rfl (lv_at hl 1 rfl) ?_
  have hPc := hP.sub (ws' := []) [] rfl
  have hDc := hD.sub (ws' := []) [] (by decide) rfl
  have hFc := va_free (wc := []) hD hS hA [] rfl
  refine va_calli (va_runS (As := [.int b]) (rest := []) ⟨hx, hb, hml, hown, hts⟩ (c_X12_isBoat l E b s.heap.size ) (va_cwS 1 hts gX12_pay_X12_isBoat rfl rfl rfl (by decide +kernel) ⟨Nat.le_of_ble_eq_true rfl, Nat.le_of_ble_eq_true rfl⟩) ⟨pcW_blind, (pcW_pre hPc hkn hDc hst hS hFc)⟩ rfl rfl hl.1 rfl (lv_room (Nat.le_of_ble_eq_true rfl)) dX12_pay_1 ⟨Nat.le_of_ble_eq_true rfl, Nat.le_of_ble_eq_true rfl⟩) hS (fun q _ h => hFc q h) hFc (fun r1 u t H1 locs ht hvm hw2 hB hz1 hk1 hS => ?_)
  obtain ⟨hP1, hD1⟩ := hB
  rw [ht] at hP1
  try dsimp only at hw2
  obtain ⟨hP, hD⟩ := va_join (wr := [(h0, .inr (12, mO q)), (q 24, .inl (E.2 1, 6, .inl (fun _ => 0)))]) (w1 := []) hP hD [] [0, 1] rfl rfl (by decide) (by decide) hk1 hFc hP1 hD1
  generalize H1 = H at hP hS ⊢
  have hP : va_P E.1 vwCl [(h0, .inr (12, mO q)), (q 24, .inl (E.2 1, 6, .inl (fun _ => 0)))] H := hP
  have hD : va_D A [(h0, .inr (12, mO q)), (q 24, .inl (E.2 1, 6, .inl (fun _ => 0)))] := hD
  refine lv_if_eq (tgt := 51) hx hb dX12_pay_4 (by decide) (fun c3 => ?_) (fun c3 => ?_)
  · have b4 : inR b 0 5 = false := bz hw2 c3
    refine lv_ldcw (v := (-2000000000)) hx hb hown (hts (.constant RX12 287 (-2000000000)) (by decide +kernel)) dX12_pay_51 ?_
    have hP9 := hP.sub (ws' := []) [] rfl
    have hD9 := hD.sub (ws' := []) [] (by decide) rfl
    exact W.iret (v := (-2000000000)) hx hb hr (fun t ht hW => ⟨⟨(-2000000000), (), rfl, (by first | (rw [b4]; done) | (rw [b4]; rfl)), by rw [ht]; exact hP9, hD9⟩, hS.F ht⟩) hS.2.2 dX12_pay_54
  · have b5 : inR b 0 5 = true := bn hw2 c3
    refine lv_iload_n hx hb dX12_pay_7 rfl (lv_at hl 2 rfl) ?_
    refine lv_iconst (v := 0) hx hb dX12_pay_8 (by decide) ?_
    refine lv_iconst (v := 1) hx hb dX12_pay_9 (by decide) ?_
    have hPc := hP.sub (ws' := []) [] rfl
    have hDc := hD.sub (ws' := []) [] (by decide) rfl
    have hFc := va_free (wc := []) hD hS hA [] rfl
    refine va_calli (va_runS (As := [.int kind, .int 0, .int 1]) (rest := []) ⟨hx, hb, hml, hown, hts⟩ (c_X12_in l E kind 0 1 H.size ) (va_cwS 3 hts gX12_pay_X12_in rfl rfl rfl (by decide +kernel) ⟨Nat.le_of_ble_eq_true rfl, Nat.le_of_ble_eq_true rfl⟩) ⟨pcW_blind, (pcW_pre hPc hkn hDc hst hS hFc)⟩ rfl rfl hl.1 rfl (lv_room (Nat.le_of_ble_eq_true rfl)) dX12_pay_10 ⟨Nat.le_of_ble_eq_true rfl, Nat.le_of_ble_eq_true rfl⟩) hS (fun q _ h => hFc q h) hFc (fun r6 u t H1 locs ht hvm hw7 hB hz1 hk1 hS => ?_)
    obtain ⟨hP1, hD1⟩ := hB
    rw [ht] at hP1
    try dsimp only at hw7
    obtain ⟨hP, hD⟩ := va_join (wr := [(h0, .inr (12, mO q)), (q 24, .inl (E.2 1, 6, .inl (fun _ => 0)))]) (w1 := []) hP hD [] [0, 1] rfl rfl (by decide) (by decide) hk1 hFc hP1 hD1
    generalize H1 = H at hP hS ⊢
    have hP : va_P E.1 vwCl [(h0, .inr (12, mO q)), (q 24, .inl (E.2 1, 6, .inl (fun _ => 0)))] H := hP
    have hD : va_D A [(h0, .inr (12, mO q)), (q 24, .inl (E.2 1, 6, .inl (fun _ => 0)))] := hD
    refine lv_if_eq (tgt := 51) hx hb dX12_pay_13 (by decide) (fun c8 => ?_) (fun c8 => ?_)
    · have b9 : inR kind 0 1 = false := bz hw7 c8
      refine lv_ldcw (v := (-2000000000)) hx hb hown (hts (.constant RX12 287 (-2000000000)) (by decide +kernel)) dX12_pay_51 ?_
      have hP9 := hP.sub (ws' := []) [] rfl
      have hD9 := hD.sub (ws' := []) [] (by decide) rfl
      exact W.iret (v := (-2000000000)) hx hb hr (fun t ht hW => ⟨⟨(-2000000000), (), rfl, (by first | (rw [b5, b9]; done) | (rw [b5, b9]; rfl)), by rw [ht]; exact hP9, hD9⟩, hS.F ht⟩) hS.2.2 dX12_pay_54
    · have b10 : inR kind 0 1 = true := bn hw7 c8
      refine lv_iload_n hx hb dX12_pay_16 rfl (lv_at hl 3 rfl) ?_
      refine lv_iconst (v := 0) hx hb dX12_pay_17 (by decide) ?_
      refine lv_ldcw (v := 100000) hx hb hown (hts (.constant RX12 286 100000) (by decide +kernel)) dX12_pay_18 ?_
      have hPc := hP.sub (ws' := []) [] rfl
      have hDc := hD.sub (ws' := []) [] (by decide) rfl
      have hFc := va_free (wc := []) hD hS hA [] rfl
      refine va_calli (va_runS (As := [.int sum, .int 0, .int 100000]) (rest := []) ⟨hx, hb, hml, hown, hts⟩ (c_X12_in l E sum 0 100000 H.size ) (va_cwS 3 hts gX12_pay_X12_in rfl rfl rfl (by decide +kernel) ⟨Nat.le_of_ble_eq_true rfl, Nat.le_of_ble_eq_true rfl⟩) ⟨pcW_blind, (pcW_pre hPc hkn hDc hst hS hFc)⟩ rfl rfl hl.1 rfl (lv_room (Nat.le_of_ble_eq_true rfl)) dX12_pay_21 ⟨Nat.le_of_ble_eq_true rfl, Nat.le_of_ble_eq_true rfl⟩) hS (fun q _ h => hFc q h) hFc (fun r11 u t H1 locs ht hvm hw12 hB hz1 hk1 hS => ?_)
      obtain ⟨hP1, hD1⟩ := hB
      rw [ht] at hP1
      try dsimp only at hw12
      obtain ⟨hP, hD⟩ := va_join (wr := [(h0, .inr (12, mO q)), (q 24, .inl (E.2 1, 6, .inl (fun _ => 0)))]) (w1 := []) hP hD [] [0, 1] rfl rfl (by decide) (by decide) hk1 hFc hP1 hD1
      generalize H1 = H at hP hS ⊢
      have hP : va_P E.1 vwCl [(h0, .inr (12, mO q)), (q 24, .inl (E.2 1, 6, .inl (fun _ => 0)))] H := hP
      have hD : va_D A [(h0, .inr (12, mO q)), (q 24, .inl (E.2 1, 6, .inl (fun _ => 0)))] := hD
      refine lv_if_eq (tgt := 51) hx hb dX12_pay_24 (by decide) (fun c13 => ?_) (fun c13 => ?_)
      · have b14 : inR sum 0 100000 = false := bz hw12 c13
        refine lv_ldcw (v := (-2000000000)) hx hb hown (hts (.constant RX12 287 (-2000000000)) (by decide +kernel)) dX12_pay_51 ?_
        have hP9 := hP.sub (ws' := []) [] rfl
        have hD9 := hD.sub (ws' := []) [] (by decide) rfl
        exact W.iret (v := (-2000000000)) hx hb hr (fun t ht hW => ⟨⟨(-2000000000), (), rfl, (by first | (rw [b5, b10, b14]; done) | (rw [b5, b10, b14]; rfl)), by rw [ht]; exact hP9, hD9⟩, hS.F ht⟩) hS.2.2 dX12_pay_54
      · have b15 : inR sum 0 100000 = true := bn hw12 c13
        refine lv_iload hx hb dX12_pay_27 (lv_at hl 4 rfl) ?_
        refine lv_iconst (v := 0) hx hb dX12_pay_29 (by decide) ?_
        refine lv_sipush (v := 1000) hx hb dX12_pay_30 (by decide) ?_
        have hPc := hP.sub (ws' := []) [] rfl
        have hDc := hD.sub (ws' := []) [] (by decide) rfl
        have hFc := va_free (wc := []) hD hS hA [] rfl
        refine va_calli (va_runS (As := [.int less, .int 0, .int 1000]) (rest := []) ⟨hx, hb, hml, hown, hts⟩ (c_X12_in l E less 0 1000 H.size ) (va_cwS 3 hts gX12_pay_X12_in rfl rfl rfl (by decide +kernel) ⟨Nat.le_of_ble_eq_true rfl, Nat.le_of_ble_eq_true rfl⟩) ⟨pcW_blind, (pcW_pre hPc hkn hDc hst hS hFc)⟩ rfl rfl hl.1 rfl (lv_room (Nat.le_of_ble_eq_true rfl)) dX12_pay_33 ⟨Nat.le_of_ble_eq_true rfl, Nat.le_of_ble_eq_true rfl⟩) hS (fun q _ h => hFc q h) hFc (fun r16 u t H1 locs ht hvm hw17 hB hz1 hk1 hS => ?_)
        obtain ⟨hP1, hD1⟩ := hB
        rw [ht] at hP1
        try dsimp only at hw17
        obtain ⟨hP, hD⟩ := va_join (wr := [(h0, .inr (12, mO q)), (q 24, .inl (E.2 1, 6, .inl (fun _ => 0)))]) (w1 := []) hP hD [] [0, 1] rfl rfl (by decide) (by decide) hk1 hFc hP1 hD1
        generalize H1 = H at hP hS ⊢
        have hP : va_P E.1 vwCl [(h0, .inr (12, mO q)), (q 24, .inl (E.2 1, 6, .inl (fun _ => 0)))] H := hP
        have hD : va_D A [(h0, .inr (12, mO q)), (q 24, .inl (E.2 1, 6, .inl (fun _ => 0)))] := hD
        refine lv_if_eq (tgt := 51) hx hb dX12_pay_36 (by decide) (fun c18 => ?_) (fun c18 => ?_)
        · have b19 : inR less 0 1000 = false := bz hw17 c18
          refine lv_ldcw (v := (-2000000000)) hx hb hown (hts (.constant RX12 287 (-2000000000)) (by decide +kernel)) dX12_pay_51 ?_
          have hP9 := hP.sub (ws' := []) [] rfl
          have hD9 := hD.sub (ws' := []) [] (by decide) rfl
          exact W.iret (v := (-2000000000)) hx hb hr (fun t ht hW => ⟨⟨(-2000000000), (), rfl, (by first | (rw [b5, b10, b15, b19]; done) | (rw [b5, b10, b15, b19]; rfl)), by rw [ht]; exact hP9, hD9⟩, hS.F ht⟩) hS.2.2 dX12_pay_54
        · have b20 : inR less 0 1000 = true := bn hw17 c18
          refine lv_iload hx hb dX12_pay_39 (lv_at hl 5 rfl) ?_
          refine lv_iconst (v := 0) hx hb dX12_pay_41 (by decide) ?_
          refine lv_sipush (v := 1000) hx hb dX12_pay_42 (by decide) ?_
          have hPc := hP.sub (ws' := []) [] rfl
          have hDc := hD.sub (ws' := []) [] (by decide) rfl
          have hFc := va_free (wc := []) hD hS hA [] rfl
          refine va_calli (va_runS (As := [.int more, .int 0, .int 1000]) (rest := []) ⟨hx, hb, hml, hown, hts⟩ (c_X12_in l E more 0 1000 H.size ) (va_cwS 3 hts gX12_pay_X12_in rfl rfl rfl (by decide +kernel) ⟨Nat.le_of_ble_eq_true rfl, Nat.le_of_ble_eq_true rfl⟩) ⟨pcW_blind, (pcW_pre hPc hkn hDc hst hS hFc)⟩ rfl rfl hl.1 rfl (lv_room (Nat.le_of_ble_eq_true rfl)) dX12_pay_45 ⟨Nat.le_of_ble_eq_true rfl, Nat.le_of_ble_eq_true rfl⟩) hS (fun q _ h => hFc q h) hFc (fun r21 u t H1 locs ht hvm hw22 hB hz1 hk1 hS => ?_)
          obtain ⟨hP1, hD1⟩ := hB
          rw [ht] at hP1
          try dsimp only at hw22
          obtain ⟨hP, hD⟩ := va_join (wr := [(h0, .inr (12, mO q)), (q 24, .inl (E.2 1, 6, .inl (fun _ => 0)))]) (w1 := []) hP hD [] [0, 1] rfl rfl (by decide) (by decide) hk1 hFc hP1 hD1
          generalize H1 = H at hP hS ⊢
          have hP : va_P E.1 vwCl [(h0, .inr (12, mO q)), (q 24, .inl (E.2 1, 6, .inl (fun _ => 0)))] H := hP
          have hD : va_D A [(h0, .inr (12, mO q)), (q 24, .inl (E.2 1, 6, .inl (fun _ => 0)))] := hD
          refine lv_if_ne (tgt := 55) hx hb dX12_pay_48 (by decide) (fun c23 => ?_) (fun c23 => ?_)
          · have b24 : inR more 0 1000 = true := bn hw22 c23
            refine lv_aload_n hx hb dX12_pay_55 rfl (lv_at hl 0 rfl) ?_
            refine va_get (D := E.1) (ci := 12) (v := .ref (q 24)) (C := RX12) (T := TX12) (N := 59) hx hb hts inX12 hown hK hP 0 rfl rfl 24 (by decide) fl54 (fun _ h9 => h9) rfl dX12_pay_56 ?_
            refine lv_iload_n hx hb dX12_pay_59 rfl (lv_at hl 1 rfl) ?_
            have hi25 : vp_in b 6 := inR_in (by decide) b5
            refine va_zald hx hb hK hP 1 1 rfl rfl hi25 dX12_pay_60 ?_
            refine lv_if_ne (tgt := 68) hx hb dX12_pay_61 (by decide) (fun c9 => absurd c9 (by decide)) (fun _ => ?_)
            refine lv_ldcw (v := (-2000000001)) hx hb hown (hts (.constant RX12 288 (-2000000001)) (by decide +kernel)) dX12_pay_64 ?_
            have hP9 := hP.sub (ws' := []) [] rfl
            have hD9 := hD.sub (ws' := []) [] (by decide) rfl
            exact W.iret (v := (-2000000001)) hx hb hr (fun t ht hW => ⟨⟨(-2000000001), (), rfl, (by first | (rw [b5, b10, b15, b20, b24]; done) | (rw [b5, b10, b15, b20, b24]; rfl)), by rw [ht]; exact hP9, hD9⟩, hS.F ht⟩) hS.2.2 dX12_pay_67
          · have b26 : inR more 0 1000 = false := bz hw22 c23
            refine lv_ldcw (v := (-2000000000)) hx hb hown (hts (.constant RX12 287 (-2000000000)) (by decide +kernel)) dX12_pay_51 ?_
            have hP9 := hP.sub (ws' := []) [] rfl
            have hD9 := hD.sub (ws' := []) [] (by decide) rfl
            exact W.iret (v := (-2000000000)) hx hb hr (fun t ht hW => ⟨⟨(-2000000000), (), rfl, (by first | (rw [b5, b10, b15, b20, b26]; done) | (rw [b5, b10, b15, b20, b26]; rfl)), by rw [ht]; exact hP9, hD9⟩, hS.F ht⟩) hS.2.2 dX12_pay_54
set_option maxHeartbeats 4000000 in
set_option maxRecDepth 100000 in
theorem c_X12_brokenOf (l : Launch) (E : vE) (h0 : Nat) (q : Nat → Nat) (j : Nat) (b : Int32) (fl : Nat → Int32) (sz : Nat) (hj : j < 6) (hbj : b = nI j) (hfl : ∀ k, k < 24 → fl k = 10000) : Met l yX12_brokenOf wsX12_brokenOf ({ frames := 0, cells := 0, slots := 0, locals := 0 }) (pcW E [.ref h0, .int b] sz [(h0, .inr (12, mO q)), (q 22, .inl (E.2 0, 24, .inl fl))]) (va_Qi (fun (r : Int32) (_ : Unit) => r = 0) (fun (_ : Unit) (t : State) => wB E (va_A [(h0, .inr (12, mO q)), (q 22, .inl (E.2 0, 24, .inl fl))] sz) [] t) (va_A [(h0, .inr (12, mO q)), (q 22, .inl (E.2 0, 24, .inl fl))] sz)) 0 0 (va_A [(h0, .inr (12, mO q)), (q 22, .inl (E.2 0, 24, .inl fl))] sz) := by
  refine Met.ofW (cc := cX12_brokenOf) (maxL := 4) (ret := (some .int)) (by decide) rfl ?_
  intro p e s m args below meth c s₁ B hml hv
  obtain ⟨rfl, hsz, hP, hkn, hD0, hst⟩ := hv
  have hx := B.exec
  have hb := B.bytes
  have hr := B.returns
  have hts := atoms_spec (ws := wsX12_brokenOf) B.pre
  have hown : s.vm.findClass RX12 = some m.cls := findClass_of_methodNamed B.named
  have hlocks := B.notSynchronized
  subst hsz
  have hD := hD0.self (sz := s.heap.size)
  have hK := hkn.1
  have hAO := hkn.2.2
  generalize hAe : va_A [(h0, .inr (12, mO q)), (q 22, .inl (E.2 0, 24, .inl fl))] s.heap.size = A at hD hst ⊢
  have hA : ∀ q : Nat, s.heap.size ≤ q → A q := fun q h => by rw [← hAe]; exact Or.inr h
  have hS : va_S A s.heap s.heap [] := va_S.rf
  have hP : va_P E.1 vwCl [(h0, .inr (12, mO q)), (q 22, .inl (E.2 0, 24, .inl fl))] s.heap := hP
  have hl := lv_entry ([.ref h0, .int b]) (n := 4) (Nat.le_of_ble_eq_true rfl)
  rw [lg_entry_eq]
  generalize (lg_sl ([.ref h0, .int b]) ++ List.replicate (4 - (lg_sl ([.ref h0, .int b])).length) Slot.unset).toArray = ls at hl ⊢
  have hl : lv_has ls 4 [(0, .ref h0), (1, .int b)] := hl
  have fl51 := hts (.fieldLink RX12 51 "BoatsHomeModel" "lasts" "[I") (by decide +kernel)
  have inX12 : ∀ w ∈ u_ws RX12 TX12 59, w ∈ wsX12_brokenOf := by decide +kernel
  subst hbj
  refine lv_iconst (v := 0) hx hb dX12_brokenOf_0 (by decide) ?_
  refine lv_istore_n (lv' := [(2, .int 0), (0, .ref h0), (1, .int (nI j))]) hx hb dX12_brokenOf_1 rfl hl (by decide) rfl (fun ls hl => ?_)
  refine lv_iconst (v := 4) hx hb dX12_brokenOf_2 (by decide) ?_
  refine lv_iload_n hx hb dX12_brokenOf_3 rfl (lv_at hl 2 rfl) ?_
  refine lv_imul hx hb dX12_brokenOf_4 ?_
  refine lv_topi (fun x1 ex1 => ?_)
  obtain rfl : x1 = nI (4 * j) := ex1.trans (pk_mul 4 j)
  refine lv_istore_n (lv' := [(3, .int (nI (4 * j))), (2, .int 0), (0, .ref h0), (1, .int (nI j))]) hx hb dX12_brokenOf_5 rfl hl (by decide) rfl (fun ls hl => ?_)
  refine lv_iload_n hx hb dX12_brokenOf_6 rfl (lv_at hl 0 rfl) ?_
  refine lv_iconst (v := 4) hx hb dX12_brokenOf_7 (by decide) ?_
  refine lv_iload_n hx hb dX12_brokenOf_8 rfl (lv_at hl 3 rfl) ?_
  refine lv_imul hx hb dX12_brokenOf_9 ?_
  refine lv_topi (fun x2 ex2 => ?_)
  obtain rfl : x2 = nI (4 * j) := ex2.trans (pk_mul 4 j)
  refine lv_iconst (v := 4) hx hb dX12_brokenOf_10 (by decide) ?_
  refine lv_iadd hx hb dX12_brokenOf_11 ?_
  refine lv_topi (fun x3 ex3 => ?_)
  obtain rfl : x3 = nI ((4 * j) + 4) := ex3.trans (nI_add (4 * j) 4)
  refine lv_icmp_ge (tgt := 39) hx hb dX12_brokenOf_12 (by decide) (fun c9 => absurd c9 (nI_ge (by omega) (by omega))) (fun c9 => ?_)
  refine lv_iload_n hx hb dX12_brokenOf_15 rfl (lv_at hl 1 rfl) ?_
  refine lv_aload_n hx hb dX12_brokenOf_16 rfl (lv_at hl 2 rfl) ?_
  refine va_get (D := E.1) (ci := 12) (v := .ref (q 22)) (C := RX12) (T := TX12) (N := 59) hx hb hts inX12 hown hK hP 0 rfl rfl 22 (by decide) fl51 (fun _ h9 => h9) rfl dX12_brokenOf_17 ?_
  refine lv_iload_n hx hb dX12_brokenOf_20 rfl (lv_at hl 0 rfl) ?_
  have hi4 : vp_in (nI (4 * j)) 24 := vp_in_nI (by omega) (by decide)
  refine va_iald hx hb hK hP 1 0 rfl rfl hi4 dX12_brokenOf_21 ?_
  refine lv_topi (fun x5 ex5 => ?_)
  obtain rfl : x5 = 10000 := ex5.trans (hfl _ (Nat.not_le.mp fun q => hi4 (Or.inr q)))
  refine lv_iconst (v := (-1)) hx hb dX12_brokenOf_22 (by decide) ?_
  refine lv_icmp_ne (tgt := 30) hx hb dX12_brokenOf_23 (by decide) (fun _ => ?_) (fun c9 => absurd c9 (by decide))
  refine lv_iconst (v := 0) hx hb dX12_brokenOf_30 (by decide) ?_
  refine lv_iadd hx hb dX12_brokenOf_31 ?_
  refine lv_topi (fun x6 ex6 => ?_)
  obtain rfl : x6 = 0 := ex6.trans (by decide +kernel)
  refine lv_istore_n (lv' := [(2, .int 0), (3, .int (nI (4 * j))), (0, .ref h0), (1, .int (nI j))]) hx hb dX12_brokenOf_32 rfl hl (by decide) rfl (fun ls hl => ?_)
  refine lv_iinc (v := (nI ((4 * j) + 1))) (lv' := [(3, .int (nI ((4 * j) + 1))), (2, .int 0), (0, .ref h0), (1, .int (nI j))]) hx hb dX12_brokenOf_33 hl (k := 1) rfl (show nI (4 * j) + 1 = nI ((4 * j) + 1) from nI_1 (4 * j)) (by decide) rfl (fun ls hl => ?_)
  refine lv_goto (tgt := 6) hx hb dX12_brokenOf_36 (by decide) ?_
  refine lv_iload_n hx hb dX12_brokenOf_6 rfl (lv_at hl 0 rfl) ?_
  refine lv_iconst (v := 4) hx hb dX12_brokenOf_7 (by decide) ?_
  refine lv_iload_n hx hb dX12_brokenOf_8 rfl (lv_at hl 3 rfl) ?_
  refine lv_imul hx hb dX12_brokenOf_9 ?_
  refine lv_topi (fun x7 ex7 => ?_)
  obtain rfl : x7 = nI (4 * j) := ex7.trans (pk_mul 4 j)
  refine lv_iconst (v := 4) hx hb dX12_brokenOf_10 (by decide) ?_
  refine lv_iadd hx hb dX12_brokenOf_11 ?_
  refine lv_topi (fun x8 ex8 => ?_)
  obtain rfl : x8 = nI ((4 * j) + 4) := ex8.trans (nI_add (4 * j) 4)
  refine lv_icmp_ge (tgt := 39) hx hb dX12_brokenOf_12 (by decide) (fun c9 => absurd c9 (nI_ge (by omega) (by omega))) (fun c9 => ?_)
  refine lv_iload_n hx hb dX12_brokenOf_15 rfl (lv_at hl 1 rfl) ?_
  refine lv_aload_n hx hb dX12_brokenOf_16 rfl (lv_at hl 2 rfl) ?_
  refine va_get (D := E.1) (ci := 12) (v := .ref (q 22)) (C := RX12) (T := TX12) (N := 59) hx hb hts inX12 hown hK hP 0 rfl rfl 22 (by decide) fl51 (fun _ h9 => h9) rfl dX12_brokenOf_17 ?_
  refine lv_iload_n hx hb dX12_brokenOf_20 rfl (lv_at hl 0 rfl) ?_
  have hi9 : vp_in (nI ((4 * j) + 1)) 24 := vp_in_nI (by omega) (by decide)
  refine va_iald hx hb hK hP 1 0 rfl rfl hi9 dX12_brokenOf_21 ?_
  refine lv_topi (fun x10 ex10 => ?_)
  obtain rfl : x10 = 10000 := ex10.trans (hfl _ (Nat.not_le.mp fun q => hi9 (Or.inr q)))
  refine lv_iconst (v := (-1)) hx hb dX12_brokenOf_22 (by decide) ?_
  refine lv_icmp_ne (tgt := 30) hx hb dX12_brokenOf_23 (by decide) (fun _ => ?_) (fun c9 => absurd c9 (by decide))
  refine lv_iconst (v := 0) hx hb dX12_brokenOf_30 (by decide) ?_
  refine lv_iadd hx hb dX12_brokenOf_31 ?_
  refine lv_topi (fun x11 ex11 => ?_)
  obtain rfl : x11 = 0 := ex11.trans (by decide +kernel)
  refine lv_istore_n (lv' := [(2, .int 0), (3, .int (nI ((4 * j) + 1))), (0, .ref h0), (1, .int (nI j))]) hx hb dX12_brokenOf_32 rfl hl (by decide) rfl (fun ls hl => ?_)
  refine lv_iinc (v := (nI (((4 * j) + 1) + 1))) (lv' := [(3, .int (nI (((4 * j) + 1) + 1))), (2, .int 0), (0, .ref h0), (1, .int (nI j))]) hx hb dX12_brokenOf_33 hl (k := 1) rfl (show nI ((4 * j) + 1) + 1 = nI (((4 * j) + 1) + 1) from nI_1 ((4 * j) + 1)) (by decide) rfl (fun ls hl => ?_)
  refine lv_goto (tgt := 6) hx hb dX12_brokenOf_36 (by decide) ?_
  refine lv_iload_n hx hb dX12_brokenOf_6 rfl (lv_at hl 0 rfl) ?_
  refine lv_iconst (v := 4) hx hb dX12_brokenOf_7 (by decide) ?_
  refine lv_iload_n hx hb dX12_brokenOf_8 rfl (lv_at hl 3 rfl) ?_
  refine lv_imul hx hb dX12_brokenOf_9 ?_
  refine lv_topi (fun x12 ex12 => ?_)
  obtain rfl : x12 = nI (4 * j) := ex12.trans (pk_mul 4 j)
  refine lv_iconst (v := 4) hx hb dX12_brokenOf_10 (by decide) ?_
  refine lv_iadd hx hb dX12_brokenOf_11 ?_
  refine lv_topi (fun x13 ex13 => ?_)
  obtain rfl : x13 = nI ((4 * j) + 4) := ex13.trans (nI_add (4 * j) 4)
  refine lv_icmp_ge (tgt := 39) hx hb dX12_brokenOf_12 (by decide) (fun c9 => absurd c9 (nI_ge (by omega) (by omega))) (fun c9 => ?_)
  refine lv_iload_n hx hb dX12_brokenOf_15 rfl (lv_at hl 1 rfl) ?_
  refine lv_aload_n hx hb dX12_brokenOf_16 rfl (lv_at hl 2 rfl) ?_
  refine va_get (D := E.1) (ci := 12) (v := .ref (q 22)) (C := RX12) (T := TX12) (N := 59) hx hb hts inX12 hown hK hP 0 rfl rfl 22 (by decide) fl51 (fun _ h9 => h9) rfl dX12_brokenOf_17 ?_
  refine lv_iload_n hx hb dX12_brokenOf_20 rfl (lv_at hl 0 rfl) ?_
  have hi14 : vp_in (nI (((4 * j) + 1) + 1)) 24 := vp_in_nI (by omega) (by decide)
  refine va_iald hx hb hK hP 1 0 rfl rfl hi14 dX12_brokenOf_21 ?_
  refine lv_topi (fun x15 ex15 => ?_)
  obtain rfl : x15 = 10000 := ex15.trans (hfl _ (Nat.not_le.mp fun q => hi14 (Or.inr q)))
  refine lv_iconst (v := (-1)) hx hb dX12_brokenOf_22 (by decide) ?_
  refine lv_icmp_ne (tgt := 30) hx hb dX12_brokenOf_23 (by decide) (fun _ => ?_) (fun c9 => absurd c9 (by decide))
  refine lv_iconst (v := 0) hx hb dX12_brokenOf_30 (by decide) ?_
  refine lv_iadd hx hb dX12_brokenOf_31 ?_
  refine lv_topi (fun x16 ex16 => ?_)
  obtain rfl : x16 = 0 := ex16.trans (by decide +kernel)
  refine lv_istore_n (lv' := [(2, .int 0), (3, .int (nI (((4 * j) + 1) + 1))), (0, .ref h0), (1, .int (nI j))]) hx hb dX12_brokenOf_32 rfl hl (by decide) rfl (fun ls hl => ?_)
  refine lv_iinc (v := (nI ((((4 * j) + 1) + 1) + 1))) (lv' := [(3, .int (nI ((((4 * j) + 1) + 1) + 1))), (2, .int 0), (0, .ref h0), (1, .int (nI j))]) hx hb dX12_brokenOf_33 hl (k := 1) rfl (show nI (((4 * j) + 1) + 1) + 1 = nI ((((4 * j) + 1) + 1) + 1) from nI_1 (((4 * j) + 1) + 1)) (by decide) rfl (fun ls hl => ?_)
  refine lv_goto (tgt := 6) hx hb dX12_brokenOf_36 (by decide) ?_
  refine lv_iload_n hx hb dX12_brokenOf_6 rfl (lv_at hl 0 rfl) ?_
  refine lv_iconst (v := 4) hx hb dX12_brokenOf_7 (by decide) ?_
  refine lv_iload_n hx hb dX12_brokenOf_8 rfl (lv_at hl 3 rfl) ?_
  refine lv_imul hx hb dX12_brokenOf_9 ?_
  refine lv_topi (fun x17 ex17 => ?_)
  obtain rfl : x17 = nI (4 * j) := ex17.trans (pk_mul 4 j)
  refine lv_iconst (v := 4) hx hb dX12_brokenOf_10 (by decide) ?_
  refine lv_iadd hx hb dX12_brokenOf_11 ?_
  refine lv_topi (fun x18 ex18 => ?_)
  obtain rfl : x18 = nI ((4 * j) + 4) := ex18.trans (nI_add (4 * j) 4)
  refine lv_icmp_ge (tgt := 39) hx hb dX12_brokenOf_12 (by decide) (fun c9 => absurd c9 (nI_ge (by omega) (by omega))) (fun c9 => ?_)
  refine lv_iload_n hx hb dX12_brokenOf_15 rfl (lv_at hl 1 rfl) ?_
  refine lv_aload_n hx hb dX12_brokenOf_16 rfl (lv_at hl 2 rfl) ?_
  refine va_get (D := E.1) (ci := 12) (v := .ref (q 22)) (C := RX12) (T := TX12) (N := 59) hx hb hts inX12 hown hK hP 0 rfl rfl 22 (by decide) fl51 (fun _ h9 => h9) rfl dX12_brokenOf_17 ?_
  refine lv_iload_n hx hb dX12_brokenOf_20 rfl (lv_at hl 0 rfl) ?_
  have hi19 : vp_in (nI ((((4 * j) + 1) + 1) + 1)) 24 := vp_in_nI (by omega) (by decide)
  refine va_iald hx hb hK hP 1 0 rfl rfl hi19 dX12_brokenOf_21 ?_
  refine lv_topi (fun x20 ex20 => ?_)
  obtain rfl : x20 = 10000 := ex20.trans (hfl _ (Nat.not_le.mp fun q => hi19 (Or.inr q)))
  refine lv_iconst (v := (-1)) hx hb dX12_brokenOf_22 (by decide) ?_
  refine lv_icmp_ne (tgt := 30) hx hb dX12_brokenOf_23 (by decide) (fun _ => ?_) (fun c9 => absurd c9 (by decide))
  refine lv_iconst (v := 0) hx hb dX12_brokenOf_30 (by decide) ?_
  refine lv_iadd hx hb dX12_brokenOf_31 ?_
  refine lv_topi (fun x21 ex21 => ?_)
  obtain rfl : x21 = 0 := ex21.trans (by decide +kernel)
  refine lv_istore_n (lv' := [(2, .int 0), (3, .int (nI ((((4 * j) + 1) + 1) + 1))), (0, .ref h0), (1, .int (nI j))]) hx hb dX12_brokenOf_32 rfl hl (by decide) rfl (fun ls hl => ?_)
  refine lv_iinc (v := (nI (((((4 * j) + 1) + 1) + 1) + 1))) (lv' := [(3, .int (nI (((((4 * j) + 1) + 1) + 1) + 1))), (2, .int 0), (0, .ref h0), (1, .int (nI j))]) hx hb dX12_brokenOf_33 hl (k := 1) rfl (show nI ((((4 * j) + 1) + 1) + 1) + 1 = nI (((((4 * j) + 1) + 1) + 1) + 1) from nI_1 ((((4 * j) + 1) + 1) + 1)) (by decide) rfl (fun ls hl => ?_)
  refine lv_goto (tgt := 6) hx hb dX12_brokenOf_36 (by decide) ?_
  refine lv_iload_n hx hb dX12_brokenOf_6 rfl (lv_at hl 0 rfl) ?_
  refine lv_iconst (v := 4) hx hb dX12_brokenOf_7 (by decide) ?_
  refine lv_iload_n hx hb dX12_brokenOf_8 rfl (lv_at hl 3 rfl) ?_
  refine lv_imul hx hb dX12_brokenOf_9 ?_
  refine lv_topi (fun x22 ex22 => ?_)
  obtain rfl : x22 = nI (4 * j) := ex22.trans (pk_mul 4 j)
  refine lv_iconst (v := 4) hx hb dX12_brokenOf_10 (by decide) ?_
  refine lv_iadd hx hb dX12_brokenOf_11 ?_
  refine lv_topi (fun x23 ex23 => ?_)
  obtain rfl : x23 = nI ((4 * j) + 4) := ex23.trans (nI_add (4 * j) 4)
  refine lv_icmp_ge (tgt := 39) hx hb dX12_brokenOf_12 (by decide) (fun c9 => ?_) (fun c9 => absurd c9 (fun h => h (nI_le (by omega) (by omega))))
  refine lv_iload_n hx hb dX12_brokenOf_39 rfl (lv_at hl 1 rfl) ?_
  have hP9 := hP.sub (ws' := []) [] rfl
  have hD9 := hD.sub (ws' := []) [] (by decide) rfl
  exact W.iret (v := 0) hx hb hr (fun t ht hW => ⟨⟨0, (), rfl, rfl, by rw [ht]; exact hP9, hD9⟩, hS.F ht⟩) hS.2.2 dX12_brokenOf_40
set_option maxHeartbeats 4000000 in
set_option maxRecDepth 100000 in
theorem c_X12_boat (l : Launch) (E : vE) (h0 : Nat) (q : Nat → Nat) (fl : Nat → Int32) (b : Int32) (what : Int32) (sz : Nat) (hfl : ∀ k, k < 24 → fl k = 10000) : Met l yX12_boat wsX12_boat ({ frames := 2, cells := 0, slots := 0, locals := 42 }) (pcW E [.ref h0, .int b, .int what] sz [(h0, .inr (12, mO q)), (q 21, .inl (E.2 0, 6, .inl (fun _ => 0))), (q 22, .inl (E.2 0, 24, .inl fl))]) (va_Qi (fun (r : Int32) (_ : Unit) => r = boatS b what) (fun (_ : Unit) (t : State) => wB E (va_A [(h0, .inr (12, mO q)), (q 21, .inl (E.2 0, 6, .inl (fun _ => 0))), (q 22, .inl (E.2 0, 24, .inl fl))] sz) [] t) (va_A [(h0, .inr (12, mO q)), (q 21, .inl (E.2 0, 6, .inl (fun _ => 0))), (q 22, .inl (E.2 0, 24, .inl fl))] sz)) 0 0 (va_A [(h0, .inr (12, mO q)), (q 21, .inl (E.2 0, 6, .inl (fun _ => 0))), (q 22, .inl (E.2 0, 24, .inl fl))] sz) := by
  refine Met.ofW (cc := cX12_boat) (maxL := 3) (ret := (some .int)) (by decide) rfl ?_
  intro p e s m args below meth c s₁ B hml hv
  obtain ⟨rfl, hsz, hP, hkn, hD0, hst⟩ := hv
  have hx := B.exec
  have hb := B.bytes
  have hr := B.returns
  have hts := atoms_spec (ws := wsX12_boat) B.pre
  have hown : s.vm.findClass RX12 = some m.cls := findClass_of_methodNamed B.named
  have hlocks := B.notSynchronized
  subst hsz
  have hD := hD0.self (sz := s.heap.size)
  have hK := hkn.1
  have hAO := hkn.2.2
  generalize hAe : va_A [(h0, .inr (12, mO q)), (q 21, .inl (E.2 0, 6, .inl (fun _ => 0))), (q 22, .inl (E.2 0, 24, .inl fl))] s.heap.size = A at hD hst ⊢
  have hA : ∀ q : Nat, s.heap.size ≤ q → A q := fun q h => by rw [← hAe]; exact Or.inr h
  have hS : va_S A s.heap s.heap [] := va_S.rf
  have hP : va_P E.1 vwCl [(h0, .inr (12, mO q)), (q 21, .inl (E.2 0, 6, .inl (fun _ => 0))), (q 22, .inl (E.2 0, 24, .inl fl))] s.heap := hP
  have hl := lv_entry ([.ref h0, .int b, .int what]) (n := 3) (Nat.le_of_ble_eq_true rfl)
  rw [lg_entry_eq]
  generalize (lg_sl ([.ref h0, .int b, .int what]) ++ List.replicate (3 - (lg_sl ([.ref h0, .int b, .int what])).length) Slot.unset).toArray = ls at hl ⊢
  have hl : lv_has ls 3 [(0, .ref h0), (1, .int b), (2, .int what)] := hl
  have fl48 := hts (.fieldLink RX12 48 "BoatsHomeModel" "litres" "[I") (by decide +kernel)
  have fl51 := hts (.fieldLink RX12 51 "BoatsHomeModel" "lasts" "[I") (by decide +kernel)
  have inX12 : ∀ w ∈ u_ws RX12 TX12 59, w ∈ wsX12_boat := by decide +kernel
  refine lv_iload_n hx hb dX12_boat_0 rfl (lv_at hl 1 rfl) ?_
  have hPc := hP.sub (ws' := []) [] rfl
  have hDc := hD.sub (ws' := []) [] (by decide) rfl
  have hFc := va_free (wc := []) hD hS hA [] rfl
  refine va_calli (va_runS (As := [.int b]) (rest := []) ⟨hx, hb, hml, hown, hts⟩ (c_X12_isBoat l E b s.heap.size ) (va_cwS 1 hts gX12_boat_X12_isBoat rfl rfl rfl (by decide +kernel) ⟨Nat.le_of_ble_eq_true rfl, Nat.le_of_ble_eq_true rfl⟩) ⟨pcW_blind, (pcW_pre hPc hkn hDc hst hS hFc)⟩ rfl rfl hl.1 rfl (lv_room (Nat.le_of_ble_eq_true rfl)) dX12_boat_1 ⟨Nat.le_of_ble_eq_true rfl, Nat.le_of_ble_eq_true rfl⟩) hS (fun q _ h => hFc q h) hFc (fun r1 u t H1 locs ht hvm hw2 hB hz1 hk1 hS => ?_)
  obtain ⟨hP1, hD1⟩ := hB
  rw [ht] at hP1
  try dsimp only at hw2
  obtain ⟨hP, hD⟩ := va_join (wr := [(h0, .inr (12, mO q)), (q 21, .inl (E.2 0, 6, .inl (fun _ => 0))), (q 22, .inl (E.2 0, 24, .inl fl))]) (w1 := []) hP hD [] [0, 1, 2] rfl rfl (by decide) (by decide) hk1 hFc hP1 hD1
  generalize H1 = H at hP hS ⊢
  have hP : va_P E.1 vwCl [(h0, .inr (12, mO q)), (q 21, .inl (E.2 0, 6, .inl (fun _ => 0))), (q 22, .inl (E.2 0, 24, .inl fl))] H := hP
  have hD : va_D A [(h0, .inr (12, mO q)), (q 21, .inl (E.2 0, 6, .inl (fun _ => 0))), (q 22, .inl (E.2 0, 24, .inl fl))] := hD
  refine lv_if_ne (tgt := 10) hx hb dX12_boat_4 (by decide) (fun c3 => ?_) (fun c3 => ?_)
  · have b4 : inR b 0 5 = true := bn hw2 c3
    refine lv_iload_n hx hb dX12_boat_10 rfl (lv_at hl 2 rfl) ?_
    refine lv_if_ne (tgt := 23) hx hb dX12_boat_11 (by decide) (fun c5 => ?_) (fun c5 => ?_)
    · refine lv_iload_n hx hb dX12_boat_23 rfl (lv_at hl 2 rfl) ?_
      refine lv_iconst (v := 1) hx hb dX12_boat_24 (by decide) ?_
      refine lv_icmp_ne (tgt := 36) hx hb dX12_boat_25 (by decide) (fun c6 => ?_) (fun c6 => ?_)
      · refine lv_iload_n hx hb dX12_boat_36 rfl (lv_at hl 2 rfl) ?_
        refine lv_bipush (v := 10) hx hb dX12_boat_37 (by decide) ?_
        refine lv_bipush (v := 13) hx hb dX12_boat_39 (by decide) ?_
        have hPc := hP.sub (ws' := []) [] rfl
        have hDc := hD.sub (ws' := []) [] (by decide) rfl
        have hFc := va_free (wc := []) hD hS hA [] rfl
        refine va_calli (va_runS (As := [.int what, .int 10, .int 13]) (rest := []) ⟨hx, hb, hml, hown, hts⟩ (c_X12_in l E what 10 13 H.size ) (va_cwS 3 hts gX12_boat_X12_in rfl rfl rfl (by decide +kernel) ⟨Nat.le_of_ble_eq_true rfl, Nat.le_of_ble_eq_true rfl⟩) ⟨pcW_blind, (pcW_pre hPc hkn hDc hst hS hFc)⟩ rfl rfl hl.1 rfl (lv_room (Nat.le_of_ble_eq_true rfl)) dX12_boat_41 ⟨Nat.le_of_ble_eq_true rfl, Nat.le_of_ble_eq_true rfl⟩) hS (fun q _ h => hFc q h) hFc (fun r7 u t H1 locs ht hvm hw8 hB hz1 hk1 hS => ?_)
        obtain ⟨hP1, hD1⟩ := hB
        rw [ht] at hP1
        try dsimp only at hw8
        obtain ⟨hP, hD⟩ := va_join (wr := [(h0, .inr (12, mO q)), (q 21, .inl (E.2 0, 6, .inl (fun _ => 0))), (q 22, .inl (E.2 0, 24, .inl fl))]) (w1 := []) hP hD [] [0, 1, 2] rfl rfl (by decide) (by decide) hk1 hFc hP1 hD1
        generalize H1 = H at hP hS ⊢
        have hP : va_P E.1 vwCl [(h0, .inr (12, mO q)), (q 21, .inl (E.2 0, 6, .inl (fun _ => 0))), (q 22, .inl (E.2 0, 24, .inl fl))] H := hP
        have hD : va_D A [(h0, .inr (12, mO q)), (q 21, .inl (E.2 0, 6, .inl (fun _ => 0))), (q 22, .inl (E.2 0, 24, .inl fl))] := hD
        refine lv_if_eq (tgt := 63) hx hb dX12_boat_44 (by decide) (fun c9 => ?_) (fun c9 => ?_)
        · have b10 : inR what 10 13 = false := bz hw8 c9
          refine lv_bipush (v := (-9)) hx hb dX12_boat_63 (by decide) ?_
          have hP9 := hP.sub (ws' := []) [] rfl
          have hD9 := hD.sub (ws' := []) [] (by decide) rfl
          exact W.iret (v := (-9)) hx hb hr (fun t ht hW => ⟨⟨(-9), (), rfl, (by unfold boatS; first | (rw [b4, b10, decide_eq_false c5, decide_eq_false c6]; done) | (rw [b4, b10, decide_eq_false c5, decide_eq_false c6]; rfl) | (rw [b4, b10]; rfl)), by rw [ht]; exact hP9, hD9⟩, hS.F ht⟩) hS.2.2 dX12_boat_65
        · have b11 : inR what 10 13 = true := bn hw8 c9
          refine lv_aload_n hx hb dX12_boat_47 rfl (lv_at hl 0 rfl) ?_
          refine va_get (D := E.1) (ci := 12) (v := .ref (q 22)) (C := RX12) (T := TX12) (N := 59) hx hb hts inX12 hown hK hP 0 rfl rfl 22 (by decide) fl51 (fun _ h9 => h9) rfl dX12_boat_48 ?_
          refine lv_iconst (v := 4) hx hb dX12_boat_51 (by decide) ?_
          refine lv_iload_n hx hb dX12_boat_52 rfl (lv_at hl 1 rfl) ?_
          refine lv_imul hx hb dX12_boat_53 ?_
          refine lv_topi (fun x12 ex12 => ?_)
          refine lv_iload_n hx hb dX12_boat_54 rfl (lv_at hl 2 rfl) ?_
          refine lv_iadd hx hb dX12_boat_55 ?_
          refine lv_topi (fun x13 ex13 => ?_)
          refine lv_bipush (v := 10) hx hb dX12_boat_56 (by decide) ?_
          refine lv_isub hx hb dX12_boat_58 ?_
          refine lv_topi (fun x14 ex14 => ?_)
          have hi15 : vp_in x14 24 := by rw [ex14, ex13, ex12]; exact ix_la b4 b11
          refine va_iald hx hb hK hP 2 0 rfl rfl hi15 dX12_boat_59 ?_
          refine lv_topi (fun x16 ex16 => ?_)
          obtain rfl : x16 = 10000 := ex16.trans (hfl _ (Nat.not_le.mp fun q => hi15 (Or.inr q)))
          refine lv_goto (tgt := 65) hx hb dX12_boat_60 (by decide) ?_
          have hP9 := hP.sub (ws' := []) [] rfl
          have hD9 := hD.sub (ws' := []) [] (by decide) rfl
          exact W.iret (v := 10000) hx hb hr (fun t ht hW => ⟨⟨10000, (), rfl, (by unfold boatS; first | (rw [b4, b11, decide_eq_false c5, decide_eq_false c6]; done) | (rw [b4, b11, decide_eq_false c5, decide_eq_false c6]; rfl) | (rw [b4, b11]; rfl)), by rw [ht]; exact hP9, hD9⟩, hS.F ht⟩) hS.2.2 dX12_boat_65
      · refine lv_aload_n hx hb dX12_boat_28 rfl (lv_at hl 0 rfl) ?_
        refine lv_iload_n hx hb dX12_boat_29 rfl (lv_at hl 1 rfl) ?_
        obtain ⟨j, hj, hbj⟩ := inR_nI (n := 5) (by decide) b4
        have hPc := hP.sub (ws' := [(h0, .inr (12, mO q)), (q 22, .inl (E.2 0, 24, .inl fl))]) [0, 2] rfl
        have hDc := hD.sub (ws' := [(h0, .inr (12, mO q)), (q 22, .inl (E.2 0, 24, .inl fl))]) [0, 2] (by decide) rfl
        have hFc := va_free (wc := [(h0, .inr (12, mO q)), (q 22, .inl (E.2 0, 24, .inl fl))]) hD hS hA [0, 2] rfl
        refine va_calli (va_runV (As := [.int b]) (rest := []) ⟨hx, hb, hml, hown, hts⟩ (c_X12_brokenOf l E h0 q j b fl H.size (by omega) hbj hfl) (cwV 1 hts gX12_boat_X12_brokenOf rfl rfl rfl (by decide +kernel) ⟨Nat.le_of_ble_eq_true rfl, Nat.le_of_ble_eq_true rfl⟩) ⟨pcW_blind, va_recv hK hPc (ci := 12) (q0 := 0) rfl rfl, (pcW_pre hPc hkn hDc hst hS hFc)⟩ rfl rfl hl.1 rfl (lv_room (Nat.le_of_ble_eq_true rfl)) dX12_boat_30 ⟨Nat.le_of_ble_eq_true rfl, Nat.le_of_ble_eq_true rfl⟩) hS (fun q _ h => hFc q h) hFc (fun r17 u t H1 locs ht hvm hw18 hB hz1 hk1 hS => ?_)
        obtain ⟨hP1, hD1⟩ := hB
        rw [ht] at hP1
        try dsimp only at hw18
        obtain ⟨hP, hD⟩ := va_join (wr := [(q 21, .inl (E.2 0, 6, .inl (fun _ => 0)))]) (w1 := []) hP hD [0, 2] [1] rfl rfl (by decide) (by decide) hk1 hFc hP1 hD1
        generalize H1 = H at hP hS ⊢
        have hP : va_P E.1 vwCl [(q 21, .inl (E.2 0, 6, .inl (fun _ => 0)))] H := hP
        have hD : va_D A [(q 21, .inl (E.2 0, 6, .inl (fun _ => 0)))] := hD
        obtain rfl : r17 = 0 := hw18
        refine lv_goto (tgt := 65) hx hb dX12_boat_33 (by decide) ?_
        have hP9 := hP.sub (ws' := []) [] rfl
        have hD9 := hD.sub (ws' := []) [] (by decide) rfl
        exact W.iret (v := 0) hx hb hr (fun t ht hW => ⟨⟨0, (), rfl, (by unfold boatS; rw [b4, c6]; decide), by rw [ht]; exact hP9, hD9⟩, hS.F ht⟩) hS.2.2 dX12_boat_65
    · refine lv_aload_n hx hb dX12_boat_14 rfl (lv_at hl 0 rfl) ?_
      refine va_get (D := E.1) (ci := 12) (v := .ref (q 21)) (C := RX12) (T := TX12) (N := 59) hx hb hts inX12 hown hK hP 0 rfl rfl 21 (by decide) fl48 (fun _ h9 => h9) rfl dX12_boat_15 ?_
      refine lv_iload_n hx hb dX12_boat_18 rfl (lv_at hl 1 rfl) ?_
      have hi19 : vp_in b 6 := inR_in (by decide) b4
      refine va_iald hx hb hK hP 1 0 rfl rfl hi19 dX12_boat_19 ?_
      refine lv_goto (tgt := 65) hx hb dX12_boat_20 (by decide) ?_
      have hP9 := hP.sub (ws' := []) [] rfl
      have hD9 := hD.sub (ws' := []) [] (by decide) rfl
      exact W.iret (v := 0) hx hb hr (fun t ht hW => ⟨⟨0, (), rfl, (by unfold boatS; rw [b4, c5]; decide), by rw [ht]; exact hP9, hD9⟩, hS.F ht⟩) hS.2.2 dX12_boat_65
  · have b20 : inR b 0 5 = false := bz hw2 c3
    refine lv_bipush (v := (-9)) hx hb dX12_boat_7 (by decide) ?_
    have hP9 := hP.sub (ws' := []) [] rfl
    have hD9 := hD.sub (ws' := []) [] (by decide) rfl
    exact W.iret (v := (-9)) hx hb hr (fun t ht hW => ⟨⟨(-9), (), rfl, (by unfold boatS; first | (rw [b20]; done) | (rw [b20]; rfl) | (rw [b20]; rfl)), by rw [ht]; exact hP9, hD9⟩, hS.F ht⟩) hS.2.2 dX12_boat_9
set_option maxHeartbeats 4000000 in
set_option maxRecDepth 100000 in
theorem c_X12_deliver (l : Launch) (E : vE) (h0 : Nat) (q : Nat → Nat) (fr : Int32) (to_ : Int32) (le : Int32) (fi : Int32) (la : Int32) (sz : Nat) : Met l yX12_deliver wsX12_deliver ({ frames := 2, cells := 0, slots := 0, locals := 42 }) (pcW E [.ref h0, .int fr, .int to_, .int le, .int fi, .int la] sz [(h0, .inr (12, mO q)), (q 42, .inl (E.2 0, 7, .inl (fun _ => 0))), (q 43, .inl (E.2 0, 7, .inl (fun _ => 0))), (q 44, .inl (E.2 0, 7, .inl (fun _ => 0))), (q 45, .inl (E.2 0, 7, .inl (fun _ => 0))), (q 46, .inl (E.2 0, 7, .inl (fun _ => 0)))]) (va_Qi (fun (r : Int32) (_ : Unit) => r = cond (inR fr 0 9 && inR to_ 0 9 && inR le 1 200 && inR fi 0 999 && inR la fi 999) 0 (-2)) (fun (_ : Unit) (t : State) => wB E (va_A [(h0, .inr (12, mO q)), (q 42, .inl (E.2 0, 7, .inl (fun _ => 0))), (q 43, .inl (E.2 0, 7, .inl (fun _ => 0))), (q 44, .inl (E.2 0, 7, .inl (fun _ => 0))), (q 45, .inl (E.2 0, 7, .inl (fun _ => 0))), (q 46, .inl (E.2 0, 7, .inl (fun _ => 0)))] sz) [] t) (va_A [(h0, .inr (12, mO q)), (q 42, .inl (E.2 0, 7, .inl (fun _ => 0))), (q 43, .inl (E.2 0, 7, .inl (fun _ => 0))), (q 44, .inl (E.2 0, 7, .inl (fun _ => 0))), (q 45, .inl (E.2 0, 7, .inl (fun _ => 0))), (q 46, .inl (E.2 0, 7, .inl (fun _ => 0)))] sz)) 0 0 (va_A [(h0, .inr (12, mO q)), (q 42, .inl (E.2 0, 7, .inl (fun _ => 0))), (q 43, .inl (E.2 0, 7, .inl (fun _ => 0))), (q 44, .inl (E.2 0, 7, .inl (fun _ => 0))), (q 45, .inl (E.2 0, 7, .inl (fun _ => 0))), (q 46, .inl (E.2 0, 7, .inl (fun _ => 0)))] sz) := by
  refine Met.ofW (cc := cX12_deliver) (maxL := 6) (ret := (some .int)) (by decide) rfl ?_
  intro p e s m args below meth c s₁ B hml hv
  obtain ⟨rfl, hsz, hP, hkn, hD0, hst⟩ := hv
  have hx := B.exec
  have hb := B.bytes
  have hr := B.returns
  have hts := atoms_spec (ws := wsX12_deliver) B.pre
  have hown : s.vm.findClass RX12 = some m.cls := findClass_of_methodNamed B.named
  have hlocks := B.notSynchronized
  subst hsz
  have hD := hD0.self (sz := s.heap.size)
  have hK := hkn.1
  have hAO := hkn.2.2
  generalize hAe : va_A [(h0, .inr (12, mO q)), (q 42, .inl (E.2 0, 7, .inl (fun _ => 0))), (q 43, .inl (E.2 0, 7, .inl (fun _ => 0))), (q 44, .inl (E.2 0, 7, .inl (fun _ => 0))), (q 45, .inl (E.2 0, 7, .inl (fun _ => 0))), (q 46, .inl (E.2 0, 7, .inl (fun _ => 0)))] s.heap.size = A at hD hst ⊢
  have hA : ∀ q : Nat, s.heap.size ≤ q → A q := fun q h => by rw [← hAe]; exact Or.inr h
  have hS : va_S A s.heap s.heap [] := va_S.rf
  have hP : va_P E.1 vwCl [(h0, .inr (12, mO q)), (q 42, .inl (E.2 0, 7, .inl (fun _ => 0))), (q 43, .inl (E.2 0, 7, .inl (fun _ => 0))), (q 44, .inl (E.2 0, 7, .inl (fun _ => 0))), (q 45, .inl (E.2 0, 7, .inl (fun _ => 0))), (q 46, .inl (E.2 0, 7, .inl (fun _ => 0)))] s.heap := hP
  have hl := lv_entry ([.ref h0, .int fr, .int to_, .int le, .int fi, .int la]) (n := 6) (Nat.le_of_ble_eq_true rfl)
  rw [lg_entry_eq]
  generalize (lg_sl ([.ref h0, .int fr, .int to_, .int le, .int fi, .int la]) ++ List.replicate (6 - (lg_sl ([.ref h0, .int fr, .int to_, .int le, .int fi, .int la])).length) Slot.unset).toArray = ls at hl ⊢
  have hl : lv_has ls 6 [(0, .ref h0), (1, .int fr), (2, .int to_), (3, .int le), (4, .int fi), (5, .int la)] := hl
  have fl106 := hts (.fieldLink RX12 106 "BoatsHomeModel" "dFrom" "[I") (by decide +kernel)
  have fl109 := hts (.fieldLink RX12 109 "BoatsHomeModel" "dTo" "[I") (by decide +kernel)
  have fl112 := hts (.fieldLink RX12 112 "BoatsHomeModel" "dDays" "[I") (by decide +kernel)
  have fl115 := hts (.fieldLink RX12 115 "BoatsHomeModel" "dFirst" "[I") (by decide +kernel)
  have fl118 := hts (.fieldLink RX12 118 "BoatsHomeModel" "dLast" "[I") (by decide +kernel)
  have fl289 := hts (.fieldLink RX12 289 "BoatsHomeModel" "deliveries" "I") (by decide +kernel)
  have fl292 := hts (.fieldLink RX12 292 "BoatsHomeModel" "isPlanned" "Z") (by decide +kernel)
  have inX12 : ∀ w ∈ u_ws RX12 TX12 59, w ∈ wsX12_deliver := by decide +kernel
  refine lv_iload_n hx hb dX12_deliver_0 rfl (lv_at hl 1 rfl) ?_
  have hPc := hP.sub (ws' := []) [] rfl
  have hDc := hD.sub (ws' := []) [] (by decide) rfl
  have hFc := va_free (wc := []) hD hS hA [] rfl
  refine va_calli (va_runS (As := [.int fr]) (rest := []) ⟨hx, hb, hml, hown, hts⟩ (c_X12_isPort l E fr s.heap.size ) (va_cwS 1 hts gX12_deliver_X12_isPort rfl rfl rfl (by decide +kernel) ⟨Nat.le_of_ble_eq_true rfl, Nat.le_of_ble_eq_true rfl⟩) ⟨pcW_blind, (pcW_pre hPc hkn hDc hst hS hFc)⟩ rfl rfl hl.1 rfl (lv_room (Nat.le_of_ble_eq_true rfl)) dX12_deliver_1 ⟨Nat.le_of_ble_eq_true rfl, Nat.le_of_ble_eq_true rfl⟩) hS (fun q _ h => hFc q h) hFc (fun r1 u t H1 locs ht hvm hw2 hB hz1 hk1 hS => ?_)
  obtain ⟨hP1, hD1⟩ := hB
  rw [ht] at hP1
  try dsimp only at hw2
  obtain ⟨hP, hD⟩ := va_join (wr := [(h0, .inr (12, mO q)), (q 42, .inl (E.2 0, 7, .inl (fun _ => 0))), (q 43, .inl (E.2 0, 7, .inl (fun _ => 0))), (q 44, .inl (E.2 0, 7, .inl (fun _ => 0))), (q 45, .inl (E.2 0, 7, .inl (fun _ => 0))), (q 46, .inl (E.2 0, 7, .inl (fun _ => 0)))]) (w1 := []) hP hD [] [0, 1, 2, 3, 4, 5] rfl rfl (by decide) (by decide) hk1 hFc hP1 hD1
  generalize H1 = H at hP hS ⊢
  have hP : va_P E.1 vwCl [(h0, .inr (12, mO q)), (q 42, .inl (E.2 0, 7, .inl (fun _ => 0))), (q 43, .inl (E.2 0, 7, .inl (fun _ => 0))), (q 44, .inl (E.2 0, 7, .inl (fun _ => 0))), (q 45, .inl (E.2 0, 7, .inl (fun _ => 0))), (q 46, .inl (E.2 0, 7, .inl (fun _ => 0)))] H := hP
  have hD : va_D A [(h0, .inr (12, mO q)), (q 42, .inl (E.2 0, 7, .inl (fun _ => 0))), (q 43, .inl (E.2 0, 7, .inl (fun _ => 0))), (q 44, .inl (E.2 0, 7, .inl (fun _ => 0))), (q 45, .inl (E.2 0, 7, .inl (fun _ => 0))), (q 46, .inl (E.2 0, 7, .inl (fun _ => 0)))] := hD
  refine lv_if_eq (tgt := 50) hx hb dX12_deliver_4 (by decide) (fun c3 => ?_) (fun c3 => ?_)
  · have b4 : inR fr 0 9 = false := bz hw2 c3
    refine lv_bipush (v := (-2)) hx hb dX12_deliver_50 (by decide) ?_
    have hP9 := hP.sub (ws' := []) [] rfl
    have hD9 := hD.sub (ws' := []) [] (by decide) rfl
    exact W.iret (v := (-2)) hx hb hr (fun t ht hW => ⟨⟨(-2), (), rfl, (by first | (rw [b4]; done) | (rw [b4]; rfl)), by rw [ht]; exact hP9, hD9⟩, hS.F ht⟩) hS.2.2 dX12_deliver_52
  · have b5 : inR fr 0 9 = true := bn hw2 c3
    refine lv_iload_n hx hb dX12_deliver_7 rfl (lv_at hl 2 rfl) ?_
    have hPc := hP.sub (ws' := []) [] rfl
    have hDc := hD.sub (ws' := []) [] (by decide) rfl
    have hFc := va_free (wc := []) hD hS hA [] rfl
    refine va_calli (va_runS (As := [.int to_]) (rest := []) ⟨hx, hb, hml, hown, hts⟩ (c_X12_isPort l E to_ H.size ) (va_cwS 1 hts gX12_deliver_X12_isPort rfl rfl rfl (by decide +kernel) ⟨Nat.le_of_ble_eq_true rfl, Nat.le_of_ble_eq_true rfl⟩) ⟨pcW_blind, (pcW_pre hPc hkn hDc hst hS hFc)⟩ rfl rfl hl.1 rfl (lv_room (Nat.le_of_ble_eq_true rfl)) dX12_deliver_8 ⟨Nat.le_of_ble_eq_true rfl, Nat.le_of_ble_eq_true rfl⟩) hS (fun q _ h => hFc q h) hFc (fun r6 u t H1 locs ht hvm hw7 hB hz1 hk1 hS => ?_)
    obtain ⟨hP1, hD1⟩ := hB
    rw [ht] at hP1
    try dsimp only at hw7
    obtain ⟨hP, hD⟩ := va_join (wr := [(h0, .inr (12, mO q)), (q 42, .inl (E.2 0, 7, .inl (fun _ => 0))), (q 43, .inl (E.2 0, 7, .inl (fun _ => 0))), (q 44, .inl (E.2 0, 7, .inl (fun _ => 0))), (q 45, .inl (E.2 0, 7, .inl (fun _ => 0))), (q 46, .inl (E.2 0, 7, .inl (fun _ => 0)))]) (w1 := []) hP hD [] [0, 1, 2, 3, 4, 5] rfl rfl (by decide) (by decide) hk1 hFc hP1 hD1
    generalize H1 = H at hP hS ⊢
    have hP : va_P E.1 vwCl [(h0, .inr (12, mO q)), (q 42, .inl (E.2 0, 7, .inl (fun _ => 0))), (q 43, .inl (E.2 0, 7, .inl (fun _ => 0))), (q 44, .inl (E.2 0, 7, .inl (fun _ => 0))), (q 45, .inl (E.2 0, 7, .inl (fun _ => 0))), (q 46, .inl (E.2 0, 7, .inl (fun _ => 0)))] H := hP
    have hD : va_D A [(h0, .inr (12, mO q)), (q 42, .inl (E.2 0, 7, .inl (fun _ => 0))), (q 43, .inl (E.2 0, 7, .inl (fun _ => 0))), (q 44, .inl (E.2 0, 7, .inl (fun _ => 0))), (q 45, .inl (E.2 0, 7, .inl (fun _ => 0))), (q 46, .inl (E.2 0, 7, .inl (fun _ => 0)))] := hD
    refine lv_if_eq (tgt := 50) hx hb dX12_deliver_11 (by decide) (fun c8 => ?_) (fun c8 => ?_)
    · have b9 : inR to_ 0 9 = false := bz hw7 c8
      refine lv_bipush (v := (-2)) hx hb dX12_deliver_50 (by decide) ?_
      have hP9 := hP.sub (ws' := []) [] rfl
      have hD9 := hD.sub (ws' := []) [] (by decide) rfl
      exact W.iret (v := (-2)) hx hb hr (fun t ht hW => ⟨⟨(-2), (), rfl, (by first | (rw [b5, b9]; done) | (rw [b5, b9]; rfl)), by rw [ht]; exact hP9, hD9⟩, hS.F ht⟩) hS.2.2 dX12_deliver_52
    · have b10 : inR to_ 0 9 = true := bn hw7 c8
      refine lv_iload_n hx hb dX12_deliver_14 rfl (lv_at hl 3 rfl) ?_
      refine lv_iconst (v := 1) hx hb dX12_deliver_15 (by decide) ?_
      refine lv_sipush (v := 200) hx hb dX12_deliver_16 (by decide) ?_
      have hPc := hP.sub (ws' := []) [] rfl
      have hDc := hD.sub (ws' := []) [] (by decide) rfl
      have hFc := va_free (wc := []) hD hS hA [] rfl
      refine va_calli (va_runS (As := [.int le, .int 1, .int 200]) (rest := []) ⟨hx, hb, hml, hown, hts⟩ (c_X12_in l E le 1 200 H.size ) (va_cwS 3 hts gX12_deliver_X12_in rfl rfl rfl (by decide +kernel) ⟨Nat.le_of_ble_eq_true rfl, Nat.le_of_ble_eq_true rfl⟩) ⟨pcW_blind, (pcW_pre hPc hkn hDc hst hS hFc)⟩ rfl rfl hl.1 rfl (lv_room (Nat.le_of_ble_eq_true rfl)) dX12_deliver_19 ⟨Nat.le_of_ble_eq_true rfl, Nat.le_of_ble_eq_true rfl⟩) hS (fun q _ h => hFc q h) hFc (fun r11 u t H1 locs ht hvm hw12 hB hz1 hk1 hS => ?_)
      obtain ⟨hP1, hD1⟩ := hB
      rw [ht] at hP1
      try dsimp only at hw12
      obtain ⟨hP, hD⟩ := va_join (wr := [(h0, .inr (12, mO q)), (q 42, .inl (E.2 0, 7, .inl (fun _ => 0))), (q 43, .inl (E.2 0, 7, .inl (fun _ => 0))), (q 44, .inl (E.2 0, 7, .inl (fun _ => 0))), (q 45, .inl (E.2 0, 7, .inl (fun _ => 0))), (q 46, .inl (E.2 0, 7, .inl (fun _ => 0)))]) (w1 := []) hP hD [] [0, 1, 2, 3, 4, 5] rfl rfl (by decide) (by decide) hk1 hFc hP1 hD1
      generalize H1 = H at hP hS ⊢
      have hP : va_P E.1 vwCl [(h0, .inr (12, mO q)), (q 42, .inl (E.2 0, 7, .inl (fun _ => 0))), (q 43, .inl (E.2 0, 7, .inl (fun _ => 0))), (q 44, .inl (E.2 0, 7, .inl (fun _ => 0))), (q 45, .inl (E.2 0, 7, .inl (fun _ => 0))), (q 46, .inl (E.2 0, 7, .inl (fun _ => 0)))] H := hP
      have hD : va_D A [(h0, .inr (12, mO q)), (q 42, .inl (E.2 0, 7, .inl (fun _ => 0))), (q 43, .inl (E.2 0, 7, .inl (fun _ => 0))), (q 44, .inl (E.2 0, 7, .inl (fun _ => 0))), (q 45, .inl (E.2 0, 7, .inl (fun _ => 0))), (q 46, .inl (E.2 0, 7, .inl (fun _ => 0)))] := hD
      refine lv_if_eq (tgt := 50) hx hb dX12_deliver_22 (by decide) (fun c13 => ?_) (fun c13 => ?_)
      · have b14 : inR le 1 200 = false := bz hw12 c13
        refine lv_bipush (v := (-2)) hx hb dX12_deliver_50 (by decide) ?_
        have hP9 := hP.sub (ws' := []) [] rfl
        have hD9 := hD.sub (ws' := []) [] (by decide) rfl
        exact W.iret (v := (-2)) hx hb hr (fun t ht hW => ⟨⟨(-2), (), rfl, (by first | (rw [b5, b10, b14]; done) | (rw [b5, b10, b14]; rfl)), by rw [ht]; exact hP9, hD9⟩, hS.F ht⟩) hS.2.2 dX12_deliver_52
      · have b15 : inR le 1 200 = true := bn hw12 c13
        refine lv_iload hx hb dX12_deliver_25 (lv_at hl 4 rfl) ?_
        refine lv_iconst (v := 0) hx hb dX12_deliver_27 (by decide) ?_
        refine lv_sipush (v := 999) hx hb dX12_deliver_28 (by decide) ?_
        have hPc := hP.sub (ws' := []) [] rfl
        have hDc := hD.sub (ws' := []) [] (by decide) rfl
        have hFc := va_free (wc := []) hD hS hA [] rfl
        refine va_calli (va_runS (As := [.int fi, .int 0, .int 999]) (rest := []) ⟨hx, hb, hml, hown, hts⟩ (c_X12_in l E fi 0 999 H.size ) (va_cwS 3 hts gX12_deliver_X12_in rfl rfl rfl (by decide +kernel) ⟨Nat.le_of_ble_eq_true rfl, Nat.le_of_ble_eq_true rfl⟩) ⟨pcW_blind, (pcW_pre hPc hkn hDc hst hS hFc)⟩ rfl rfl hl.1 rfl (lv_room (Nat.le_of_ble_eq_true rfl)) dX12_deliver_31 ⟨Nat.le_of_ble_eq_true rfl, Nat.le_of_ble_eq_true rfl⟩) hS (fun q _ h => hFc q h) hFc (fun r16 u t H1 locs ht hvm hw17 hB hz1 hk1 hS => ?_)
        obtain ⟨hP1, hD1⟩ := hB
        rw [ht] at hP1
        try dsimp only at hw17
        obtain ⟨hP, hD⟩ := va_join (wr := [(h0, .inr (12, mO q)), (q 42, .inl (E.2 0, 7, .inl (fun _ => 0))), (q 43, .inl (E.2 0, 7, .inl (fun _ => 0))), (q 44, .inl (E.2 0, 7, .inl (fun _ => 0))), (q 45, .inl (E.2 0, 7, .inl (fun _ => 0))), (q 46, .inl (E.2 0, 7, .inl (fun _ => 0)))]) (w1 := []) hP hD [] [0, 1, 2, 3, 4, 5] rfl rfl (by decide) (by decide) hk1 hFc hP1 hD1
        generalize H1 = H at hP hS ⊢
        have hP : va_P E.1 vwCl [(h0, .inr (12, mO q)), (q 42, .inl (E.2 0, 7, .inl (fun _ => 0))), (q 43, .inl (E.2 0, 7, .inl (fun _ => 0))), (q 44, .inl (E.2 0, 7, .inl (fun _ => 0))), (q 45, .inl (E.2 0, 7, .inl (fun _ => 0))), (q 46, .inl (E.2 0, 7, .inl (fun _ => 0)))] H := hP
        have hD : va_D A [(h0, .inr (12, mO q)), (q 42, .inl (E.2 0, 7, .inl (fun _ => 0))), (q 43, .inl (E.2 0, 7, .inl (fun _ => 0))), (q 44, .inl (E.2 0, 7, .inl (fun _ => 0))), (q 45, .inl (E.2 0, 7, .inl (fun _ => 0))), (q 46, .inl (E.2 0, 7, .inl (fun _ => 0)))] := hD
        refine lv_if_eq (tgt := 50) hx hb dX12_deliver_34 (by decide) (fun c18 => ?_) (fun c18 => ?_)
        · have b19 : inR fi 0 999 = false := bz hw17 c18
          refine lv_bipush (v := (-2)) hx hb dX12_deliver_50 (by decide) ?_
          have hP9 := hP.sub (ws' := []) [] rfl
          have hD9 := hD.sub (ws' := []) [] (by decide) rfl
          exact W.iret (v := (-2)) hx hb hr (fun t ht hW => ⟨⟨(-2), (), rfl, (by first | (rw [b5, b10, b15, b19]; done) | (rw [b5, b10, b15, b19]; rfl)), by rw [ht]; exact hP9, hD9⟩, hS.F ht⟩) hS.2.2 dX12_deliver_52
        · have b20 : inR fi 0 999 = true := bn hw17 c18
          refine lv_iload hx hb dX12_deliver_37 (lv_at hl 5 rfl) ?_
          refine lv_iload hx hb dX12_deliver_39 (lv_at hl 4 rfl) ?_
          refine lv_sipush (v := 999) hx hb dX12_deliver_41 (by decide) ?_
          have hPc := hP.sub (ws' := []) [] rfl
          have hDc := hD.sub (ws' := []) [] (by decide) rfl
          have hFc := va_free (wc := []) hD hS hA [] rfl
          refine va_calli (va_runS (As := [.int la, .int fi, .int 999]) (rest := []) ⟨hx, hb, hml, hown, hts⟩ (c_X12_in l E la fi 999 H.size ) (va_cwS 3 hts gX12_deliver_X12_in rfl rfl rfl (by decide +kernel) ⟨Nat.le_of_ble_eq_true rfl, Nat.le_of_ble_eq_true rfl⟩) ⟨pcW_blind, (pcW_pre hPc hkn hDc hst hS hFc)⟩ rfl rfl hl.1 rfl (lv_room (Nat.le_of_ble_eq_true rfl)) dX12_deliver_44 ⟨Nat.le_of_ble_eq_true rfl, Nat.le_of_ble_eq_true rfl⟩) hS (fun q _ h => hFc q h) hFc (fun r21 u t H1 locs ht hvm hw22 hB hz1 hk1 hS => ?_)
          obtain ⟨hP1, hD1⟩ := hB
          rw [ht] at hP1
          try dsimp only at hw22
          obtain ⟨hP, hD⟩ := va_join (wr := [(h0, .inr (12, mO q)), (q 42, .inl (E.2 0, 7, .inl (fun _ => 0))), (q 43, .inl (E.2 0, 7, .inl (fun _ => 0))), (q 44, .inl (E.2 0, 7, .inl (fun _ => 0))), (q 45, .inl (E.2 0, 7, .inl (fun _ => 0))), (q 46, .inl (E.2 0, 7, .inl (fun _ => 0)))]) (w1 := []) hP hD [] [0, 1, 2, 3, 4, 5] rfl rfl (by decide) (by decide) hk1 hFc hP1 hD1
          generalize H1 = H at hP hS ⊢
          have hP : va_P E.1 vwCl [(h0, .inr (12, mO q)), (q 42, .inl (E.2 0, 7, .inl (fun _ => 0))), (q 43, .inl (E.2 0, 7, .inl (fun _ => 0))), (q 44, .inl (E.2 0, 7, .inl (fun _ => 0))), (q 45, .inl (E.2 0, 7, .inl (fun _ => 0))), (q 46, .inl (E.2 0, 7, .inl (fun _ => 0)))] H := hP
          have hD : va_D A [(h0, .inr (12, mO q)), (q 42, .inl (E.2 0, 7, .inl (fun _ => 0))), (q 43, .inl (E.2 0, 7, .inl (fun _ => 0))), (q 44, .inl (E.2 0, 7, .inl (fun _ => 0))), (q 45, .inl (E.2 0, 7, .inl (fun _ => 0))), (q 46, .inl (E.2 0, 7, .inl (fun _ => 0)))] := hD
          refine lv_if_ne (tgt := 53) hx hb dX12_deliver_47 (by decide) (fun c23 => ?_) (fun c23 => ?_)
          · have b24 : inR la fi 999 = true := bn hw22 c23
            refine lv_aload_n hx hb dX12_deliver_53 rfl (lv_at hl 0 rfl) ?_
            refine va_get (D := E.1) (ci := 12) (v := .int 0) (C := RX12) (T := TX12) (N := 59) hx hb hts inX12 hown hK hP 0 rfl rfl 41 (by decide) fl289 (fun _ h9 => h9) rfl dX12_deliver_54 ?_
            refine lv_bipush (v := 7) hx hb dX12_deliver_57 (by decide) ?_
            refine lv_icmp_ne (tgt := 65) hx hb dX12_deliver_59 (by decide) (fun _ => ?_) (fun c9 => absurd c9 (by decide))
            refine lv_aload_n hx hb dX12_deliver_65 rfl (lv_at hl 0 rfl) ?_
            refine va_get (D := E.1) (ci := 12) (v := .ref (q 42)) (C := RX12) (T := TX12) (N := 59) hx hb hts inX12 hown hK hP 0 rfl rfl 42 (by decide) fl106 (fun _ h9 => h9) rfl dX12_deliver_66 ?_
            refine lv_aload_n hx hb dX12_deliver_69 rfl (lv_at hl 0 rfl) ?_
            refine va_get (D := E.1) (ci := 12) (v := .int 0) (C := RX12) (T := TX12) (N := 59) hx hb hts inX12 hown hK hP 0 rfl rfl 41 (by decide) fl289 (fun _ h9 => h9) rfl dX12_deliver_70 ?_
            refine lv_iload_n hx hb dX12_deliver_73 rfl (lv_at hl 1 rfl) ?_
            refine va_iast hx hb hK hP hD hS 1 0 rfl rfl (show vp_in 0 7 from by unfold vp_in; decide) dX12_deliver_74 (fun H locs hP hD hS => ?_)
            have hP : va_P E.1 vwCl [(h0, .inr (12, mO q)), (q 42, .inl (E.2 0, 7, .inl (upd (fun _ => 0) (Int32.toNatClampNeg 0) fr))), (q 43, .inl (E.2 0, 7, .inl (fun _ => 0))), (q 44, .inl (E.2 0, 7, .inl (fun _ => 0))), (q 45, .inl (E.2 0, 7, .inl (fun _ => 0))), (q 46, .inl (E.2 0, 7, .inl (fun _ => 0)))] H := hP
            have hD : va_D A [(h0, .inr (12, mO q)), (q 42, .inl (E.2 0, 7, .inl (upd (fun _ => 0) (Int32.toNatClampNeg 0) fr))), (q 43, .inl (E.2 0, 7, .inl (fun _ => 0))), (q 44, .inl (E.2 0, 7, .inl (fun _ => 0))), (q 45, .inl (E.2 0, 7, .inl (fun _ => 0))), (q 46, .inl (E.2 0, 7, .inl (fun _ => 0)))] := hD
            obtain ⟨f25, ef25⟩ : ∃ g : Nat → Int32, g = upd (fun _ => 0) (Int32.toNatClampNeg 0) fr := ⟨_, rfl⟩
            rw [← ef25] at hP hD
            refine lv_aload_n hx hb dX12_deliver_75 rfl (lv_at hl 0 rfl) ?_
            refine va_get (D := E.1) (ci := 12) (v := .ref (q 43)) (C := RX12) (T := TX12) (N := 59) hx hb hts inX12 hown hK hP 0 rfl rfl 43 (by decide) fl109 (fun _ h9 => h9) rfl dX12_deliver_76 ?_
            refine lv_aload_n hx hb dX12_deliver_79 rfl (lv_at hl 0 rfl) ?_
            refine va_get (D := E.1) (ci := 12) (v := .int 0) (C := RX12) (T := TX12) (N := 59) hx hb hts inX12 hown hK hP 0 rfl rfl 41 (by decide) fl289 (fun _ h9 => h9) rfl dX12_deliver_80 ?_
            refine lv_iload_n hx hb dX12_deliver_83 rfl (lv_at hl 2 rfl) ?_
            refine va_iast hx hb hK hP hD hS 2 0 rfl rfl (show vp_in 0 7 from by unfold vp_in; decide) dX12_deliver_84 (fun H locs hP hD hS => ?_)
            have hP : va_P E.1 vwCl [(h0, .inr (12, mO q)), (q 42, .inl (E.2 0, 7, .inl f25)), (q 43, .inl (E.2 0, 7, .inl (upd (fun _ => 0) (Int32.toNatClampNeg 0) to_))), (q 44, .inl (E.2 0, 7, .inl (fun _ => 0))), (q 45, .inl (E.2 0, 7, .inl (fun _ => 0))), (q 46, .inl (E.2 0, 7, .inl (fun _ => 0)))] H := hP
            have hD : va_D A [(h0, .inr (12, mO q)), (q 42, .inl (E.2 0, 7, .inl f25)), (q 43, .inl (E.2 0, 7, .inl (upd (fun _ => 0) (Int32.toNatClampNeg 0) to_))), (q 44, .inl (E.2 0, 7, .inl (fun _ => 0))), (q 45, .inl (E.2 0, 7, .inl (fun _ => 0))), (q 46, .inl (E.2 0, 7, .inl (fun _ => 0)))] := hD
            obtain ⟨f26, ef26⟩ : ∃ g : Nat → Int32, g = upd (fun _ => 0) (Int32.toNatClampNeg 0) to_ := ⟨_, rfl⟩
            rw [← ef26] at hP hD
            refine lv_aload_n hx hb dX12_deliver_85 rfl (lv_at hl 0 rfl) ?_
            refine va_get (D := E.1) (ci := 12) (v := .ref (q 44)) (C := RX12) (T := TX12) (N := 59) hx hb hts inX12 hown hK hP 0 rfl rfl 44 (by decide) fl112 (fun _ h9 => h9) rfl dX12_deliver_86 ?_
            refine lv_aload_n hx hb dX12_deliver_89 rfl (lv_at hl 0 rfl) ?_
            refine va_get (D := E.1) (ci := 12) (v := .int 0) (C := RX12) (T := TX12) (N := 59) hx hb hts inX12 hown hK hP 0 rfl rfl 41 (by decide) fl289 (fun _ h9 => h9) rfl dX12_deliver_90 ?_
            refine lv_iload_n hx hb dX12_deliver_93 rfl (lv_at hl 3 rfl) ?_
            refine va_iast hx hb hK hP hD hS 3 0 rfl rfl (show vp_in 0 7 from by unfold vp_in; decide) dX12_deliver_94 (fun H locs hP hD hS => ?_)
            have hP : va_P E.1 vwCl [(h0, .inr (12, mO q)), (q 42, .inl (E.2 0, 7, .inl f25)), (q 43, .inl (E.2 0, 7, .inl f26)), (q 44, .inl (E.2 0, 7, .inl (upd (fun _ => 0) (Int32.toNatClampNeg 0) le))), (q 45, .inl (E.2 0, 7, .inl (fun _ => 0))), (q 46, .inl (E.2 0, 7, .inl (fun _ => 0)))] H := hP
            have hD : va_D A [(h0, .inr (12, mO q)), (q 42, .inl (E.2 0, 7, .inl f25)), (q 43, .inl (E.2 0, 7, .inl f26)), (q 44, .inl (E.2 0, 7, .inl (upd (fun _ => 0) (Int32.toNatClampNeg 0) le))), (q 45, .inl (E.2 0, 7, .inl (fun _ => 0))), (q 46, .inl (E.2 0, 7, .inl (fun _ => 0)))] := hD
            obtain ⟨f27, ef27⟩ : ∃ g : Nat → Int32, g = upd (fun _ => 0) (Int32.toNatClampNeg 0) le := ⟨_, rfl⟩
            rw [← ef27] at hP hD
            refine lv_aload_n hx hb dX12_deliver_95 rfl (lv_at hl 0 rfl) ?_
            refine va_get (D := E.1) (ci := 12) (v := .ref (q 45)) (C := RX12) (T := TX12) (N := 59) hx hb hts inX12 hown hK hP 0 rfl rfl 45 (by decide) fl115 (fun _ h9 => h9) rfl dX12_deliver_96 ?_
            refine lv_aload_n hx hb dX12_deliver_99 rfl (lv_at hl 0 rfl) ?_
            refine va_get (D := E.1) (ci := 12) (v := .int 0) (C := RX12) (T := TX12) (N := 59) hx hb hts inX12 hown hK hP 0 rfl rfl 41 (by decide) fl289 (fun _ h9 => h9) rfl dX12_deliver_100 ?_
            refine lv_iload hx hb dX12_deliver_103 (lv_at hl 4 rfl) ?_
            refine va_iast hx hb hK hP hD hS 4 0 rfl rfl (show vp_in 0 7 from by unfold vp_in; decide) dX12_deliver_105 (fun H locs hP hD hS => ?_)
            have hP : va_P E.1 vwCl [(h0, .inr (12, mO q)), (q 42, .inl (E.2 0, 7, .inl f25)), (q 43, .inl (E.2 0, 7, .inl f26)), (q 44, .inl (E.2 0, 7, .inl f27)), (q 45, .inl (E.2 0, 7, .inl (upd (fun _ => 0) (Int32.toNatClampNeg 0) fi))), (q 46, .inl (E.2 0, 7, .inl (fun _ => 0)))] H := hP
            have hD : va_D A [(h0, .inr (12, mO q)), (q 42, .inl (E.2 0, 7, .inl f25)), (q 43, .inl (E.2 0, 7, .inl f26)), (q 44, .inl (E.2 0, 7, .inl f27)), (q 45, .inl (E.2 0, 7, .inl (upd (fun _ => 0) (Int32.toNatClampNeg 0) fi))), (q 46, .inl (E.2 0, 7, .inl (fun _ => 0)))] := hD
            obtain ⟨f28, ef28⟩ : ∃ g : Nat → Int32, g = upd (fun _ => 0) (Int32.toNatClampNeg 0) fi := ⟨_, rfl⟩
            rw [← ef28] at hP hD
            refine lv_aload_n hx hb dX12_deliver_106 rfl (lv_at hl 0 rfl) ?_
            refine va_get (D := E.1) (ci := 12) (v := .ref (q 46)) (C := RX12) (T := TX12) (N := 59) hx hb hts inX12 hown hK hP 0 rfl rfl 46 (by decide) fl118 (fun _ h9 => h9) rfl dX12_deliver_107 ?_
            refine lv_aload_n hx hb dX12_deliver_110 rfl (lv_at hl 0 rfl) ?_
            refine va_get (D := E.1) (ci := 12) (v := .int 0) (C := RX12) (T := TX12) (N := 59) hx hb hts inX12 hown hK hP 0 rfl rfl 41 (by decide) fl289 (fun _ h9 => h9) rfl dX12_deliver_111 ?_
            refine lv_iload hx hb dX12_deliver_114 (lv_at hl 5 rfl) ?_
            refine va_iast hx hb hK hP hD hS 5 0 rfl rfl (show vp_in 0 7 from by unfold vp_in; decide) dX12_deliver_116 (fun H locs hP hD hS => ?_)
            have hP : va_P E.1 vwCl [(h0, .inr (12, mO q)), (q 42, .inl (E.2 0, 7, .inl f25)), (q 43, .inl (E.2 0, 7, .inl f26)), (q 44, .inl (E.2 0, 7, .inl f27)), (q 45, .inl (E.2 0, 7, .inl f28)), (q 46, .inl (E.2 0, 7, .inl (upd (fun _ => 0) (Int32.toNatClampNeg 0) la)))] H := hP
            have hD : va_D A [(h0, .inr (12, mO q)), (q 42, .inl (E.2 0, 7, .inl f25)), (q 43, .inl (E.2 0, 7, .inl f26)), (q 44, .inl (E.2 0, 7, .inl f27)), (q 45, .inl (E.2 0, 7, .inl f28)), (q 46, .inl (E.2 0, 7, .inl (upd (fun _ => 0) (Int32.toNatClampNeg 0) la)))] := hD
            obtain ⟨f29, ef29⟩ : ∃ g : Nat → Int32, g = upd (fun _ => 0) (Int32.toNatClampNeg 0) la := ⟨_, rfl⟩
            rw [← ef29] at hP hD
            refine lv_aload_n hx hb dX12_deliver_117 rfl (lv_at hl 0 rfl) ?_
            refine lv_dup hx hb dX12_deliver_118 rfl ?_
            refine va_get (D := E.1) (ci := 12) (v := .int 0) (C := RX12) (T := TX12) (N := 59) hx hb hts inX12 hown hK hP 0 rfl rfl 41 (by decide) fl289 (fun _ h9 => h9) rfl dX12_deliver_119 ?_
            refine lv_iconst (v := 1) hx hb dX12_deliver_122 (by decide) ?_
            refine lv_iadd hx hb dX12_deliver_123 ?_
            refine lv_topi (fun x30 ex30 => ?_)
            obtain rfl : x30 = 1 := ex30.trans (by decide +kernel)
            refine va_put (D := E.1) (ci := 12) (v := .int 1) (ty := .int) (C := RX12) (T := TX12) (N := 59) hx hb hts inX12 tyX12 tyX12_ok nmX12 hown hK hP hD hS 0 rfl rfl 41 (by decide) fl289 (fun _ h9 => h9) rfl (by decide +kernel) rfl rfl (Nat.le_of_ble_eq_true rfl) dX12_deliver_124 (fun H locs hP hD hS => ?_)
            have hP : va_P E.1 vwCl [(h0, .inr (12, (mO q).set 41 (.int 1))), (q 42, .inl (E.2 0, 7, .inl f25)), (q 43, .inl (E.2 0, 7, .inl f26)), (q 44, .inl (E.2 0, 7, .inl f27)), (q 45, .inl (E.2 0, 7, .inl f28)), (q 46, .inl (E.2 0, 7, .inl f29))] H := hP
            have hD : va_D A [(h0, .inr (12, (mO q).set 41 (.int 1))), (q 42, .inl (E.2 0, 7, .inl f25)), (q 43, .inl (E.2 0, 7, .inl f26)), (q 44, .inl (E.2 0, 7, .inl f27)), (q 45, .inl (E.2 0, 7, .inl f28)), (q 46, .inl (E.2 0, 7, .inl f29))] := hD
            refine lv_aload_n hx hb dX12_deliver_127 rfl (lv_at hl 0 rfl) ?_
            refine lv_iconst (v := 0) hx hb dX12_deliver_128 (by decide) ?_
            refine va_put (D := E.1) (ci := 12) (v := .int 0) (ty := .boolean) (C := RX12) (T := TX12) (N := 59) hx hb hts inX12 tyX12 tyX12_ok nmX12 hown hK hP hD hS 0 rfl rfl 50 (by decide) fl292 (fun _ h9 => h9) rfl (by decide +kernel) (by first | rfl | decide) (by first | rfl | decide) (Nat.le_of_ble_eq_true rfl) dX12_deliver_129 (fun H locs hP hD hS => ?_)
            have hP : va_P E.1 vwCl [(h0, .inr (12, (mO q).set 41 (.int 1))), (q 42, .inl (E.2 0, 7, .inl f25)), (q 43, .inl (E.2 0, 7, .inl f26)), (q 44, .inl (E.2 0, 7, .inl f27)), (q 45, .inl (E.2 0, 7, .inl f28)), (q 46, .inl (E.2 0, 7, .inl f29))] H := hP
            have hD : va_D A [(h0, .inr (12, (mO q).set 41 (.int 1))), (q 42, .inl (E.2 0, 7, .inl f25)), (q 43, .inl (E.2 0, 7, .inl f26)), (q 44, .inl (E.2 0, 7, .inl f27)), (q 45, .inl (E.2 0, 7, .inl f28)), (q 46, .inl (E.2 0, 7, .inl f29))] := hD
            refine lv_aload_n hx hb dX12_deliver_132 rfl (lv_at hl 0 rfl) ?_
            refine va_get (D := E.1) (ci := 12) (v := .int 1) (C := RX12) (T := TX12) (N := 59) hx hb hts inX12 hown hK hP 0 rfl rfl 41 (by decide) fl289 (fun _ h9 => h9) rfl dX12_deliver_133 ?_
            refine lv_iconst (v := 1) hx hb dX12_deliver_136 (by decide) ?_
            refine lv_isub hx hb dX12_deliver_137 ?_
            refine lv_topi (fun x31 ex31 => ?_)
            obtain rfl : x31 = 0 := ex31.trans (by decide +kernel)
            have hP9 := hP.sub (ws' := []) [] rfl
            have hD9 := hD.sub (ws' := []) [] (by decide) rfl
            exact W.iret (v := 0) hx hb hr (fun t ht hW => ⟨⟨0, (), rfl, (by first | (rw [b5, b10, b15, b20, b24]; done) | (rw [b5, b10, b15, b20, b24]; rfl)), by rw [ht]; exact hP9, hD9⟩, hS.F ht⟩) hS.2.2 dX12_deliver_138
          · have b32 : inR la fi 999 = false := bz hw22 c23
            refine lv_bipush (v := (-2)) hx hb dX12_deliver_50 (by decide) ?_
            have hP9 := hP.sub (ws' := []) [] rfl
            have hD9 := hD.sub (ws' := []) [] (by decide) rfl
            exact W.iret (v := (-2)) hx hb hr (fun t ht hW => ⟨⟨(-2), (), rfl, (by first | (rw [b5, b10, b15, b20, b32]; done) | (rw [b5, b10, b15, b20, b32]; rfl)), by rw [ht]; exact hP9, hD9⟩, hS.F ht⟩) hS.2.2 dX12_deliver_52
set_option maxHeartbeats 4000000 in
set_option maxRecDepth 100000 in
theorem c_X12_crew (l : Launch) (E : vE) (h0 : Nat) (q : Nat → Nat) (fc : Nat → Int32) (cr : Int32) (port : Int32) (day : Int32) (sz : Nat) : Met l yX12_crew wsX12_crew ({ frames := 2, cells := 0, slots := 0, locals := 42 }) (pcW E [.ref h0, .int cr, .int port, .int day] sz [(h0, .inr (12, mO q)), (q 47, .inl (E.2 0, 4, .inl fc)), (q 48, .inl (E.2 0, 4, .inl (fun _ => 0)))]) (va_Qi (fun (r : Int32) (_ : Unit) => r = cond (inR cr 0 3 && inR port 0 9 && inR day 0 999) 1 (-2)) (fun (_ : Unit) (t : State) => wB E (va_A [(h0, .inr (12, mO q)), (q 47, .inl (E.2 0, 4, .inl fc)), (q 48, .inl (E.2 0, 4, .inl (fun _ => 0)))] sz) [] t) (va_A [(h0, .inr (12, mO q)), (q 47, .inl (E.2 0, 4, .inl fc)), (q 48, .inl (E.2 0, 4, .inl (fun _ => 0)))] sz)) 0 0 (va_A [(h0, .inr (12, mO q)), (q 47, .inl (E.2 0, 4, .inl fc)), (q 48, .inl (E.2 0, 4, .inl (fun _ => 0)))] sz) := by
  refine Met.ofW (cc := cX12_crew) (maxL := 4) (ret := (some .int)) (by decide) rfl ?_
  intro p e s m args below meth c s₁ B hml hv
  obtain ⟨rfl, hsz, hP, hkn, hD0, hst⟩ := hv
  have hx := B.exec
  have hb := B.bytes
  have hr := B.returns
  have hts := atoms_spec (ws := wsX12_crew) B.pre
  have hown : s.vm.findClass RX12 = some m.cls := findClass_of_methodNamed B.named
  have hlocks := B.notSynchronized
  subst hsz
  have hD := hD0.self (sz := s.heap.size)
  have hK := hkn.1
  have hAO := hkn.2.2
  generalize hAe : va_A [(h0, .inr (12, mO q)), (q 47, .inl (E.2 0, 4, .inl fc)), (q 48, .inl (E.2 0, 4, .inl (fun _ => 0)))] s.heap.size = A at hD hst ⊢
  have hA : ∀ q : Nat, s.heap.size ≤ q → A q := fun q h => by rw [← hAe]; exact Or.inr h
  have hS : va_S A s.heap s.heap [] := va_S.rf
  have hP : va_P E.1 vwCl [(h0, .inr (12, mO q)), (q 47, .inl (E.2 0, 4, .inl fc)), (q 48, .inl (E.2 0, 4, .inl (fun _ => 0)))] s.heap := hP
  have hl := lv_entry ([.ref h0, .int cr, .int port, .int day]) (n := 4) (Nat.le_of_ble_eq_true rfl)
  rw [lg_entry_eq]
  generalize (lg_sl ([.ref h0, .int cr, .int port, .int day]) ++ List.replicate (4 - (lg_sl ([.ref h0, .int cr, .int port, .int day])).length) Slot.unset).toArray = ls at hl ⊢
  have hl : lv_has ls 4 [(0, .ref h0), (1, .int cr), (2, .int port), (3, .int day)] := hl
  have fl121 := hts (.fieldLink RX12 121 "BoatsHomeModel" "crewPort" "[I") (by decide +kernel)
  have fl124 := hts (.fieldLink RX12 124 "BoatsHomeModel" "crewDay" "[I") (by decide +kernel)
  have fl292 := hts (.fieldLink RX12 292 "BoatsHomeModel" "isPlanned" "Z") (by decide +kernel)
  have inX12 : ∀ w ∈ u_ws RX12 TX12 59, w ∈ wsX12_crew := by decide +kernel
  refine lv_iload_n hx hb dX12_crew_0 rfl (lv_at hl 1 rfl) ?_
  refine lv_iconst (v := 0) hx hb dX12_crew_1 (by decide) ?_
  refine lv_iconst (v := 3) hx hb dX12_crew_2 (by decide) ?_
  have hPc := hP.sub (ws' := []) [] rfl
  have hDc := hD.sub (ws' := []) [] (by decide) rfl
  have hFc := va_free (wc := []) hD hS hA [] rfl
  refine va_calli (va_runS (As := [.int cr, .int 0, .int 3]) (rest := []) ⟨hx, hb, hml, hown, hts⟩ (c_X12_in l E cr 0 3 s.heap.size ) (va_cwS 3 hts gX12_crew_X12_in rfl rfl rfl (by decide +kernel) ⟨Nat.le_of_ble_eq_true rfl, Nat.le_of_ble_eq_true rfl⟩) ⟨pcW_blind, (pcW_pre hPc hkn hDc hst hS hFc)⟩ rfl rfl hl.1 rfl (lv_room (Nat.le_of_ble_eq_true rfl)) dX12_crew_3 ⟨Nat.le_of_ble_eq_true rfl, Nat.le_of_ble_eq_true rfl⟩) hS (fun q _ h => hFc q h) hFc (fun r1 u t H1 locs ht hvm hw2 hB hz1 hk1 hS => ?_)
  obtain ⟨hP1, hD1⟩ := hB
  rw [ht] at hP1
  try dsimp only at hw2
  obtain ⟨hP, hD⟩ := va_join (wr := [(h0, .inr (12, mO q)), (q 47, .inl (E.2 0, 4, .inl fc)), (q 48, .inl (E.2 0, 4, .inl (fun _ => 0)))]) (w1 := []) hP hD [] [0, 1, 2] rfl rfl (by decide) (by decide) hk1 hFc hP1 hD1
  generalize H1 = H at hP hS ⊢
  have hP : va_P E.1 vwCl [(h0, .inr (12, mO q)), (q 47, .inl (E.2 0, 4, .inl fc)), (q 48, .inl (E.2 0, 4, .inl (fun _ => 0)))] H := hP
  have hD : va_D A [(h0, .inr (12, mO q)), (q 47, .inl (E.2 0, 4, .inl fc)), (q 48, .inl (E.2 0, 4, .inl (fun _ => 0)))] := hD
  refine lv_if_eq (tgt := 27) hx hb dX12_crew_6 (by decide) (fun c3 => ?_) (fun c3 => ?_)
  · have b4 : inR cr 0 3 = false := bz hw2 c3
    refine lv_bipush (v := (-2)) hx hb dX12_crew_27 (by decide) ?_
    have hP9 := hP.sub (ws' := []) [] rfl
    have hD9 := hD.sub (ws' := []) [] (by decide) rfl
    exact W.iret (v := (-2)) hx hb hr (fun t ht hW => ⟨⟨(-2), (), rfl, (by first | (rw [b4]; done) | (rw [b4]; rfl)), by rw [ht]; exact hP9, hD9⟩, hS.F ht⟩) hS.2.2 dX12_crew_29
  · have b5 : inR cr 0 3 = true := bn hw2 c3
    refine lv_iload_n hx hb dX12_crew_9 rfl (lv_at hl 2 rfl) ?_
    have hPc := hP.sub (ws' := []) [] rfl
    have hDc := hD.sub (ws' := []) [] (by decide) rfl
    have hFc := va_free (wc := []) hD hS hA [] rfl
    refine va_calli (va_runS (As := [.int port]) (rest := []) ⟨hx, hb, hml, hown, hts⟩ (c_X12_isPort l E port H.size ) (va_cwS 1 hts gX12_crew_X12_isPort rfl rfl rfl (by decide +kernel) ⟨Nat.le_of_ble_eq_true rfl, Nat.le_of_ble_eq_true rfl⟩) ⟨pcW_blind, (pcW_pre hPc hkn hDc hst hS hFc)⟩ rfl rfl hl.1 rfl (lv_room (Nat.le_of_ble_eq_true rfl)) dX12_crew_10 ⟨Nat.le_of_ble_eq_true rfl, Nat.le_of_ble_eq_true rfl⟩) hS (fun q _ h => hFc q h) hFc (fun r6 u t H1 locs ht hvm hw7 hB hz1 hk1 hS => ?_)
    obtain ⟨hP1, hD1⟩ := hB
    rw [ht] at hP1
    try dsimp only at hw7
    obtain ⟨hP, hD⟩ := va_join (wr := [(h0, .inr (12, mO q)), (q 47, .inl (E.2 0, 4, .inl fc)), (q 48, .inl (E.2 0, 4, .inl (fun _ => 0)))]) (w1 := []) hP hD [] [0, 1, 2] rfl rfl (by decide) (by decide) hk1 hFc hP1 hD1
    generalize H1 = H at hP hS ⊢
    have hP : va_P E.1 vwCl [(h0, .inr (12, mO q)), (q 47, .inl (E.2 0, 4, .inl fc)), (q 48, .inl (E.2 0, 4, .inl (fun _ => 0)))] H := hP
    have hD : va_D A [(h0, .inr (12, mO q)), (q 47, .inl (E.2 0, 4, .inl fc)), (q 48, .inl (E.2 0, 4, .inl (fun _ => 0)))] := hD
    refine lv_if_eq (tgt := 27) hx hb dX12_crew_13 (by decide) (fun c8 => ?_) (fun c8 => ?_)
    · have b9 : inR port 0 9 = false := bz hw7 c8
      refine lv_bipush (v := (-2)) hx hb dX12_crew_27 (by decide) ?_
      have hP9 := hP.sub (ws' := []) [] rfl
      have hD9 := hD.sub (ws' := []) [] (by decide) rfl
      exact W.iret (v := (-2)) hx hb hr (fun t ht hW => ⟨⟨(-2), (), rfl, (by first | (rw [b5, b9]; done) | (rw [b5, b9]; rfl)), by rw [ht]; exact hP9, hD9⟩, hS.F ht⟩) hS.2.2 dX12_crew_29
    · have b10 : inR port 0 9 = true := bn hw7 c8
      refine lv_iload_n hx hb dX12_crew_16 rfl (lv_at hl 3 rfl) ?_
      refine lv_iconst (v := 0) hx hb dX12_crew_17 (by decide) ?_
      refine lv_sipush (v := 999) hx hb dX12_crew_18 (by decide) ?_
      have hPc := hP.sub (ws' := []) [] rfl
      have hDc := hD.sub (ws' := []) [] (by decide) rfl
      have hFc := va_free (wc := []) hD hS hA [] rfl
      refine va_calli (va_runS (As := [.int day, .int 0, .int 999]) (rest := []) ⟨hx, hb, hml, hown, hts⟩ (c_X12_in l E day 0 999 H.size ) (va_cwS 3 hts gX12_crew_X12_in rfl rfl rfl (by decide +kernel) ⟨Nat.le_of_ble_eq_true rfl, Nat.le_of_ble_eq_true rfl⟩) ⟨pcW_blind, (pcW_pre hPc hkn hDc hst hS hFc)⟩ rfl rfl hl.1 rfl (lv_room (Nat.le_of_ble_eq_true rfl)) dX12_crew_21 ⟨Nat.le_of_ble_eq_true rfl, Nat.le_of_ble_eq_true rfl⟩) hS (fun q _ h => hFc q h) hFc (fun r11 u t H1 locs ht hvm hw12 hB hz1 hk1 hS => ?_)
      obtain ⟨hP1, hD1⟩ := hB
      rw [ht] at hP1
      try dsimp only at hw12
      obtain ⟨hP, hD⟩ := va_join (wr := [(h0, .inr (12, mO q)), (q 47, .inl (E.2 0, 4, .inl fc)), (q 48, .inl (E.2 0, 4, .inl (fun _ => 0)))]) (w1 := []) hP hD [] [0, 1, 2] rfl rfl (by decide) (by decide) hk1 hFc hP1 hD1
      generalize H1 = H at hP hS ⊢
      have hP : va_P E.1 vwCl [(h0, .inr (12, mO q)), (q 47, .inl (E.2 0, 4, .inl fc)), (q 48, .inl (E.2 0, 4, .inl (fun _ => 0)))] H := hP
      have hD : va_D A [(h0, .inr (12, mO q)), (q 47, .inl (E.2 0, 4, .inl fc)), (q 48, .inl (E.2 0, 4, .inl (fun _ => 0)))] := hD
      refine lv_if_ne (tgt := 30) hx hb dX12_crew_24 (by decide) (fun c13 => ?_) (fun c13 => ?_)
      · have b14 : inR day 0 999 = true := bn hw12 c13
        refine lv_aload_n hx hb dX12_crew_30 rfl (lv_at hl 0 rfl) ?_
        refine va_get (D := E.1) (ci := 12) (v := .ref (q 47)) (C := RX12) (T := TX12) (N := 59) hx hb hts inX12 hown hK hP 0 rfl rfl 47 (by decide) fl121 (fun _ h9 => h9) rfl dX12_crew_31 ?_
        refine lv_iload_n hx hb dX12_crew_34 rfl (lv_at hl 1 rfl) ?_
        refine lv_iload_n hx hb dX12_crew_35 rfl (lv_at hl 2 rfl) ?_
        have hi15 : vp_in cr 4 := inR_in (by decide) b5
        refine va_iast hx hb hK hP hD hS 1 0 rfl rfl hi15 dX12_crew_36 (fun H locs hP hD hS => ?_)
        have hP : va_P E.1 vwCl [(h0, .inr (12, mO q)), (q 47, .inl (E.2 0, 4, .inl (upd fc cr.toNatClampNeg port))), (q 48, .inl (E.2 0, 4, .inl (fun _ => 0)))] H := hP
        have hD : va_D A [(h0, .inr (12, mO q)), (q 47, .inl (E.2 0, 4, .inl (upd fc cr.toNatClampNeg port))), (q 48, .inl (E.2 0, 4, .inl (fun _ => 0)))] := hD
        obtain ⟨f16, ef16⟩ : ∃ g : Nat → Int32, g = upd fc cr.toNatClampNeg port := ⟨_, rfl⟩
        rw [← ef16] at hP hD
        refine lv_aload_n hx hb dX12_crew_37 rfl (lv_at hl 0 rfl) ?_
        refine va_get (D := E.1) (ci := 12) (v := .ref (q 48)) (C := RX12) (T := TX12) (N := 59) hx hb hts inX12 hown hK hP 0 rfl rfl 48 (by decide) fl124 (fun _ h9 => h9) rfl dX12_crew_38 ?_
        refine lv_iload_n hx hb dX12_crew_41 rfl (lv_at hl 1 rfl) ?_
        refine lv_iload_n hx hb dX12_crew_42 rfl (lv_at hl 3 rfl) ?_
        refine va_iast hx hb hK hP hD hS 2 0 rfl rfl hi15 dX12_crew_43 (fun H locs hP hD hS => ?_)
        have hP : va_P E.1 vwCl [(h0, .inr (12, mO q)), (q 47, .inl (E.2 0, 4, .inl f16)), (q 48, .inl (E.2 0, 4, .inl (upd (fun _ => 0) cr.toNatClampNeg day)))] H := hP
        have hD : va_D A [(h0, .inr (12, mO q)), (q 47, .inl (E.2 0, 4, .inl f16)), (q 48, .inl (E.2 0, 4, .inl (upd (fun _ => 0) cr.toNatClampNeg day)))] := hD
        obtain ⟨f17, ef17⟩ : ∃ g : Nat → Int32, g = upd (fun _ => 0) cr.toNatClampNeg day := ⟨_, rfl⟩
        rw [← ef17] at hP hD
        refine lv_aload_n hx hb dX12_crew_44 rfl (lv_at hl 0 rfl) ?_
        refine lv_iconst (v := 0) hx hb dX12_crew_45 (by decide) ?_
        refine va_put (D := E.1) (ci := 12) (v := .int 0) (ty := .boolean) (C := RX12) (T := TX12) (N := 59) hx hb hts inX12 tyX12 tyX12_ok nmX12 hown hK hP hD hS 0 rfl rfl 50 (by decide) fl292 (fun _ h9 => h9) rfl (by decide +kernel) (by first | rfl | decide) (by first | rfl | decide) (Nat.le_of_ble_eq_true rfl) dX12_crew_46 (fun H locs hP hD hS => ?_)
        have hP : va_P E.1 vwCl [(h0, .inr (12, mO q)), (q 47, .inl (E.2 0, 4, .inl f16)), (q 48, .inl (E.2 0, 4, .inl f17))] H := hP
        have hD : va_D A [(h0, .inr (12, mO q)), (q 47, .inl (E.2 0, 4, .inl f16)), (q 48, .inl (E.2 0, 4, .inl f17))] := hD
        refine lv_iconst (v := 1) hx hb dX12_crew_49 (by decide) ?_
        have hP9 := hP.sub (ws' := []) [] rfl
        have hD9 := hD.sub (ws' := []) [] (by decide) rfl
        exact W.iret (v := 1) hx hb hr (fun t ht hW => ⟨⟨1, (), rfl, (by first | (rw [b5, b10, b14]; done) | (rw [b5, b10, b14]; rfl)), by rw [ht]; exact hP9, hD9⟩, hS.F ht⟩) hS.2.2 dX12_crew_50
      · have b18 : inR day 0 999 = false := bz hw12 c13
        refine lv_bipush (v := (-2)) hx hb dX12_crew_27 (by decide) ?_
        have hP9 := hP.sub (ws' := []) [] rfl
        have hD9 := hD.sub (ws' := []) [] (by decide) rfl
        exact W.iret (v := (-2)) hx hb hr (fun t ht hW => ⟨⟨(-2), (), rfl, (by first | (rw [b5, b10, b18]; done) | (rw [b5, b10, b18]; rfl)), by rw [ht]; exact hP9, hD9⟩, hS.F ht⟩) hS.2.2 dX12_crew_29
set_option maxHeartbeats 4000000 in
set_option maxRecDepth 100000 in
theorem c_X12_flight (l : Launch) (E : vE) (h0 : Nat) (q : Nat → Nat) (ff : Nat → Int32) (pp : Int32) (qq : Int32) (cost : Int32) (sz : Nat) (hff : ∀ k, k < 100 → ff k = if k % 11 = 0 then 0 else -1) : Met l yX12_flight wsX12_flight ({ frames := 2, cells := 0, slots := 0, locals := 42 }) (pcW E [.ref h0, .int pp, .int qq, .int cost] sz [(h0, .inr (12, mO q)), (q 49, .inl (E.2 0, 100, .inl ff))]) (va_Qi (fun (r : Int32) (_ : Unit) => r = cond (inR pp 0 9 && inR qq 0 9 && !(decide (pp = qq)) && inR cost (-1) 10000) (-1) (-2)) (fun (_ : Unit) (t : State) => wB E (va_A [(h0, .inr (12, mO q)), (q 49, .inl (E.2 0, 100, .inl ff))] sz) [] t) (va_A [(h0, .inr (12, mO q)), (q 49, .inl (E.2 0, 100, .inl ff))] sz)) 0 0 (va_A [(h0, .inr (12, mO q)), (q 49, .inl (E.2 0, 100, .inl ff))] sz) := by
  refine Met.ofW (cc := cX12_flight) (maxL := 5) (ret := (some .int)) (by decide) rfl ?_
  intro p e s m args below meth c s₁ B hml hv
  obtain ⟨rfl, hsz, hP, hkn, hD0, hst⟩ := hv
  have hx := B.exec
  have hb := B.bytes
  have hr := B.returns
  have hts := atoms_spec (ws := wsX12_flight) B.pre
  have hown : s.vm.findClass RX12 = some m.cls := findClass_of_methodNamed B.named
  have hlocks := B.notSynchronized
  subst hsz
  have hD := hD0.self (sz := s.heap.size)
  have hK := hkn.1
  have hAO := hkn.2.2
  generalize hAe : va_A [(h0, .inr (12, mO q)), (q 49, .inl (E.2 0, 100, .inl ff))] s.heap.size = A at hD hst ⊢
  have hA : ∀ q : Nat, s.heap.size ≤ q → A q := fun q h => by rw [← hAe]; exact Or.inr h
  have hS : va_S A s.heap s.heap [] := va_S.rf
  have hP : va_P E.1 vwCl [(h0, .inr (12, mO q)), (q 49, .inl (E.2 0, 100, .inl ff))] s.heap := hP
  have hl := lv_entry ([.ref h0, .int pp, .int qq, .int cost]) (n := 5) (Nat.le_of_ble_eq_true rfl)
  rw [lg_entry_eq]
  generalize (lg_sl ([.ref h0, .int pp, .int qq, .int cost]) ++ List.replicate (5 - (lg_sl ([.ref h0, .int pp, .int qq, .int cost])).length) Slot.unset).toArray = ls at hl ⊢
  have hl : lv_has ls 5 [(0, .ref h0), (1, .int pp), (2, .int qq), (3, .int cost)] := hl
  have fl127 := hts (.fieldLink RX12 127 "BoatsHomeModel" "flights" "[I") (by decide +kernel)
  have fl292 := hts (.fieldLink RX12 292 "BoatsHomeModel" "isPlanned" "Z") (by decide +kernel)
  have inX12 : ∀ w ∈ u_ws RX12 TX12 59, w ∈ wsX12_flight := by decide +kernel
  refine lv_iload_n hx hb dX12_flight_0 rfl (lv_at hl 1 rfl) ?_
  have hPc := hP.sub (ws' := []) [] rfl
  have hDc := hD.sub (ws' := []) [] (by decide) rfl
  have hFc := va_free (wc := []) hD hS hA [] rfl
  refine va_calli (va_runS (As := [.int pp]) (rest := []) ⟨hx, hb, hml, hown, hts⟩ (c_X12_isPort l E pp s.heap.size ) (va_cwS 1 hts gX12_flight_X12_isPort rfl rfl rfl (by decide +kernel) ⟨Nat.le_of_ble_eq_true rfl, Nat.le_of_ble_eq_true rfl⟩) ⟨pcW_blind, (pcW_pre hPc hkn hDc hst hS hFc)⟩ rfl rfl hl.1 rfl (lv_room (Nat.le_of_ble_eq_true rfl)) dX12_flight_1 ⟨Nat.le_of_ble_eq_true rfl, Nat.le_of_ble_eq_true rfl⟩) hS (fun q _ h => hFc q h) hFc (fun r1 u t H1 locs ht hvm hw2 hB hz1 hk1 hS => ?_)
  obtain ⟨hP1, hD1⟩ := hB
  rw [ht] at hP1
  try dsimp only at hw2
  obtain ⟨hP, hD⟩ := va_join (wr := [(h0, .inr (12, mO q)), (q 49, .inl (E.2 0, 100, .inl ff))]) (w1 := []) hP hD [] [0, 1] rfl rfl (by decide) (by decide) hk1 hFc hP1 hD1
  generalize H1 = H at hP hS ⊢
  have hP : va_P E.1 vwCl [(h0, .inr (12, mO q)), (q 49, .inl (E.2 0, 100, .inl ff))] H := hP
  have hD : va_D A [(h0, .inr (12, mO q)), (q 49, .inl (E.2 0, 100, .inl ff))] := hD
  refine lv_if_eq (tgt := 30) hx hb dX12_flight_4 (by decide) (fun c3 => ?_) (fun c3 => ?_)
  · have b4 : inR pp 0 9 = false := bz hw2 c3
    refine lv_bipush (v := (-2)) hx hb dX12_flight_30 (by decide) ?_
    have hP9 := hP.sub (ws' := []) [] rfl
    have hD9 := hD.sub (ws' := []) [] (by decide) rfl
    exact W.iret (v := (-2)) hx hb hr (fun t ht hW => ⟨⟨(-2), (), rfl, (by first | (rw [b4]; done) | (rw [b4]; rfl)), by rw [ht]; exact hP9, hD9⟩, hS.F ht⟩) hS.2.2 dX12_flight_32
  · have b5 : inR pp 0 9 = true := bn hw2 c3
    refine lv_iload_n hx hb dX12_flight_7 rfl (lv_at hl 2 rfl) ?_
    have hPc := hP.sub (ws' := []) [] rfl
    have hDc := hD.sub (ws' := []) [] (by decide) rfl
    have hFc := va_free (wc := []) hD hS hA [] rfl
    refine va_calli (va_runS (As := [.int qq]) (rest := []) ⟨hx, hb, hml, hown, hts⟩ (c_X12_isPort l E qq H.size ) (va_cwS 1 hts gX12_flight_X12_isPort rfl rfl rfl (by decide +kernel) ⟨Nat.le_of_ble_eq_true rfl, Nat.le_of_ble_eq_true rfl⟩) ⟨pcW_blind, (pcW_pre hPc hkn hDc hst hS hFc)⟩ rfl rfl hl.1 rfl (lv_room (Nat.le_of_ble_eq_true rfl)) dX12_flight_8 ⟨Nat.le_of_ble_eq_true rfl, Nat.le_of_ble_eq_true rfl⟩) hS (fun q _ h => hFc q h) hFc (fun r6 u t H1 locs ht hvm hw7 hB hz1 hk1 hS => ?_)
    obtain ⟨hP1, hD1⟩ := hB
    rw [ht] at hP1
    try dsimp only at hw7
    obtain ⟨hP, hD⟩ := va_join (wr := [(h0, .inr (12, mO q)), (q 49, .inl (E.2 0, 100, .inl ff))]) (w1 := []) hP hD [] [0, 1] rfl rfl (by decide) (by decide) hk1 hFc hP1 hD1
    generalize H1 = H at hP hS ⊢
    have hP : va_P E.1 vwCl [(h0, .inr (12, mO q)), (q 49, .inl (E.2 0, 100, .inl ff))] H := hP
    have hD : va_D A [(h0, .inr (12, mO q)), (q 49, .inl (E.2 0, 100, .inl ff))] := hD
    refine lv_if_eq (tgt := 30) hx hb dX12_flight_11 (by decide) (fun c8 => ?_) (fun c8 => ?_)
    · have b9 : inR qq 0 9 = false := bz hw7 c8
      refine lv_bipush (v := (-2)) hx hb dX12_flight_30 (by decide) ?_
      have hP9 := hP.sub (ws' := []) [] rfl
      have hD9 := hD.sub (ws' := []) [] (by decide) rfl
      exact W.iret (v := (-2)) hx hb hr (fun t ht hW => ⟨⟨(-2), (), rfl, (by first | (rw [b5, b9]; done) | (rw [b5, b9]; rfl)), by rw [ht]; exact hP9, hD9⟩, hS.F ht⟩) hS.2.2 dX12_flight_32
    · have b10 : inR qq 0 9 = true := bn hw7 c8
      refine lv_iload_n hx hb dX12_flight_14 rfl (lv_at hl 1 rfl) ?_
      refine lv_iload_n hx hb dX12_flight_15 rfl (lv_at hl 2 rfl) ?_
      refine lv_icmp_eq (tgt := 30) hx hb dX12_flight_16 (by decide) (fun c11 => ?_) (fun c11 => ?_)
      · refine lv_bipush (v := (-2)) hx hb dX12_flight_30 (by decide) ?_
        have hP9 := hP.sub (ws' := []) [] rfl
        have hD9 := hD.sub (ws' := []) [] (by decide) rfl
        exact W.iret (v := (-2)) hx hb hr (fun t ht hW => ⟨⟨(-2), (), rfl, (by first | (rw [b5, b10, decide_eq_true c11]; done) | (rw [b5, b10, decide_eq_true c11]; rfl)), by rw [ht]; exact hP9, hD9⟩, hS.F ht⟩) hS.2.2 dX12_flight_32
      · refine lv_iload_n hx hb dX12_flight_19 rfl (lv_at hl 3 rfl) ?_
        refine lv_iconst (v := (-1)) hx hb dX12_flight_20 (by decide) ?_
        refine lv_sipush (v := 10000) hx hb dX12_flight_21 (by decide) ?_
        have hPc := hP.sub (ws' := []) [] rfl
        have hDc := hD.sub (ws' := []) [] (by decide) rfl
        have hFc := va_free (wc := []) hD hS hA [] rfl
        refine va_calli (va_runS (As := [.int cost, .int (-1), .int 10000]) (rest := []) ⟨hx, hb, hml, hown, hts⟩ (c_X12_in l E cost (-1) 10000 H.size ) (va_cwS 3 hts gX12_flight_X12_in rfl rfl rfl (by decide +kernel) ⟨Nat.le_of_ble_eq_true rfl, Nat.le_of_ble_eq_true rfl⟩) ⟨pcW_blind, (pcW_pre hPc hkn hDc hst hS hFc)⟩ rfl rfl hl.1 rfl (lv_room (Nat.le_of_ble_eq_true rfl)) dX12_flight_24 ⟨Nat.le_of_ble_eq_true rfl, Nat.le_of_ble_eq_true rfl⟩) hS (fun q _ h => hFc q h) hFc (fun r12 u t H1 locs ht hvm hw13 hB hz1 hk1 hS => ?_)
        obtain ⟨hP1, hD1⟩ := hB
        rw [ht] at hP1
        try dsimp only at hw13
        obtain ⟨hP, hD⟩ := va_join (wr := [(h0, .inr (12, mO q)), (q 49, .inl (E.2 0, 100, .inl ff))]) (w1 := []) hP hD [] [0, 1] rfl rfl (by decide) (by decide) hk1 hFc hP1 hD1
        generalize H1 = H at hP hS ⊢
        have hP : va_P E.1 vwCl [(h0, .inr (12, mO q)), (q 49, .inl (E.2 0, 100, .inl ff))] H := hP
        have hD : va_D A [(h0, .inr (12, mO q)), (q 49, .inl (E.2 0, 100, .inl ff))] := hD
        refine lv_if_ne (tgt := 33) hx hb dX12_flight_27 (by decide) (fun c14 => ?_) (fun c14 => ?_)
        · have b15 : inR cost (-1) 10000 = true := bn hw13 c14
          refine lv_aload_n hx hb dX12_flight_33 rfl (lv_at hl 0 rfl) ?_
          refine va_get (D := E.1) (ci := 12) (v := .ref (q 49)) (C := RX12) (T := TX12) (N := 59) hx hb hts inX12 hown hK hP 0 rfl rfl 49 (by decide) fl127 (fun _ h9 => h9) rfl dX12_flight_34 ?_
          refine lv_bipush (v := 10) hx hb dX12_flight_37 (by decide) ?_
          refine lv_iload_n hx hb dX12_flight_39 rfl (lv_at hl 1 rfl) ?_
          refine lv_imul hx hb dX12_flight_40 ?_
          refine lv_topi (fun x16 ex16 => ?_)
          refine lv_iload_n hx hb dX12_flight_41 rfl (lv_at hl 2 rfl) ?_
          refine lv_iadd hx hb dX12_flight_42 ?_
          refine lv_topi (fun x17 ex17 => ?_)
          have hi18 : vp_in x17 100 := by rw [ex17, ex16]; exact ixB b5 (a := 9) (by decide) b10 (b := 9) (by decide) (M := 10) rfl (by decide) (by decide)
          refine va_iald hx hb hK hP 1 0 rfl rfl hi18 dX12_flight_43 ?_
          refine lv_topi (fun x19 ex19 => ?_)
          obtain rfl : x19 = -1 := by rw [ex19, ex17, ex16]; exact ff_read2 hff b5 b10 c11
          refine lv_istore (lv' := [(4, .int (-1)), (0, .ref h0), (1, .int pp), (2, .int qq), (3, .int cost)]) hx hb dX12_flight_44 hl (by decide) rfl (fun ls hl => ?_)
          refine lv_aload_n hx hb dX12_flight_46 rfl (lv_at hl 1 rfl) ?_
          refine va_get (D := E.1) (ci := 12) (v := .ref (q 49)) (C := RX12) (T := TX12) (N := 59) hx hb hts inX12 hown hK hP 0 rfl rfl 49 (by decide) fl127 (fun _ h9 => h9) rfl dX12_flight_47 ?_
          refine lv_bipush (v := 10) hx hb dX12_flight_50 (by decide) ?_
          refine lv_iload_n hx hb dX12_flight_52 rfl (lv_at hl 2 rfl) ?_
          refine lv_imul hx hb dX12_flight_53 ?_
          refine lv_topi (fun x20 ex20 => ?_)
          refine lv_iload_n hx hb dX12_flight_54 rfl (lv_at hl 3 rfl) ?_
          refine lv_iadd hx hb dX12_flight_55 ?_
          refine lv_topi (fun x21 ex21 => ?_)
          refine lv_iload_n hx hb dX12_flight_56 rfl (lv_at hl 4 rfl) ?_
          have hi22 : vp_in x21 100 := by rw [ex21, ex20]; exact ixB b5 (a := 9) (by decide) b10 (b := 9) (by decide) (M := 10) rfl (by decide) (by decide)
          refine va_iast hx hb hK hP hD hS 1 0 rfl rfl hi22 dX12_flight_57 (fun H locs hP hD hS => ?_)
          have hP : va_P E.1 vwCl [(h0, .inr (12, mO q)), (q 49, .inl (E.2 0, 100, .inl (upd ff x21.toNatClampNeg cost)))] H := hP
          have hD : va_D A [(h0, .inr (12, mO q)), (q 49, .inl (E.2 0, 100, .inl (upd ff x21.toNatClampNeg cost)))] := hD
          obtain ⟨f23, ef23⟩ : ∃ g : Nat → Int32, g = upd ff x21.toNatClampNeg cost := ⟨_, rfl⟩
          rw [← ef23] at hP hD
          refine lv_aload_n hx hb dX12_flight_58 rfl (lv_at hl 1 rfl) ?_
          refine va_get (D := E.1) (ci := 12) (v := .ref (q 49)) (C := RX12) (T := TX12) (N := 59) hx hb hts inX12 hown hK hP 0 rfl rfl 49 (by decide) fl127 (fun _ h9 => h9) rfl dX12_flight_59 ?_
          refine lv_bipush (v := 10) hx hb dX12_flight_62 (by decide) ?_
          refine lv_iload_n hx hb dX12_flight_64 rfl (lv_at hl 3 rfl) ?_
          refine lv_imul hx hb dX12_flight_65 ?_
          refine lv_topi (fun x24 ex24 => ?_)
          refine lv_iload_n hx hb dX12_flight_66 rfl (lv_at hl 2 rfl) ?_
          refine lv_iadd hx hb dX12_flight_67 ?_
          refine lv_topi (fun x25 ex25 => ?_)
          refine lv_iload_n hx hb dX12_flight_68 rfl (lv_at hl 4 rfl) ?_
          have hi26 : vp_in x25 100 := by rw [ex25, ex24]; exact ixB b10 (a := 9) (by decide) b5 (b := 9) (by decide) (M := 10) rfl (by decide) (by decide)
          refine va_iast hx hb hK hP hD hS 1 0 rfl rfl hi26 dX12_flight_69 (fun H locs hP hD hS => ?_)
          have hP : va_P E.1 vwCl [(h0, .inr (12, mO q)), (q 49, .inl (E.2 0, 100, .inl (upd f23 x25.toNatClampNeg cost)))] H := hP
          have hD : va_D A [(h0, .inr (12, mO q)), (q 49, .inl (E.2 0, 100, .inl (upd f23 x25.toNatClampNeg cost)))] := hD
          obtain ⟨f27, ef27⟩ : ∃ g : Nat → Int32, g = upd f23 x25.toNatClampNeg cost := ⟨_, rfl⟩
          rw [← ef27] at hP hD
          refine lv_aload_n hx hb dX12_flight_70 rfl (lv_at hl 1 rfl) ?_
          refine lv_iconst (v := 0) hx hb dX12_flight_71 (by decide) ?_
          refine va_put (D := E.1) (ci := 12) (v := .int 0) (ty := .boolean) (C := RX12) (T := TX12) (N := 59) hx hb hts inX12 tyX12 tyX12_ok nmX12 hown hK hP hD hS 0 rfl rfl 50 (by decide) fl292 (fun _ h9 => h9) rfl (by decide +kernel) (by first | rfl | decide) (by first | rfl | decide) (Nat.le_of_ble_eq_true rfl) dX12_flight_72 (fun H locs hP hD hS => ?_)
          have hP : va_P E.1 vwCl [(h0, .inr (12, mO q)), (q 49, .inl (E.2 0, 100, .inl f27))] H := hP
          have hD : va_D A [(h0, .inr (12, mO q)), (q 49, .inl (E.2 0, 100, .inl f27))] := hD
          refine lv_iload hx hb dX12_flight_75 (lv_at hl 0 rfl) ?_
          have hP9 := hP.sub (ws' := []) [] rfl
          have hD9 := hD.sub (ws' := []) [] (by decide) rfl
          exact W.iret (v := (-1)) hx hb hr (fun t ht hW => ⟨⟨(-1), (), rfl, (by first | (rw [b5, b10, b15, decide_eq_false c11]; done) | (rw [b5, b10, b15, decide_eq_false c11]; rfl)), by rw [ht]; exact hP9, hD9⟩, hS.F ht⟩) hS.2.2 dX12_flight_77
        · have b28 : inR cost (-1) 10000 = false := bz hw13 c14
          refine lv_bipush (v := (-2)) hx hb dX12_flight_30 (by decide) ?_
          have hP9 := hP.sub (ws' := []) [] rfl
          have hD9 := hD.sub (ws' := []) [] (by decide) rfl
          exact W.iret (v := (-2)) hx hb hr (fun t ht hW => ⟨⟨(-2), (), rfl, (by first | (rw [b5, b10, b28, decide_eq_false c11]; done) | (rw [b5, b10, b28, decide_eq_false c11]; rfl)), by rw [ht]; exact hP9, hD9⟩, hS.F ht⟩) hS.2.2 dX12_flight_32
set_option maxHeartbeats 4000000 in
set_option maxRecDepth 100000 in
theorem c_X12_planned (l : Launch) (E : vE) (h0 : Nat) (q : Nat → Nat) (what : Int32) (sz : Nat) : Met l yX12_planned wsX12_planned ({ frames := 2, cells := 0, slots := 0, locals := 42 }) (pcW E [.ref h0, .int what] sz [(h0, .inr (12, mO q))]) (va_Qi (fun (r : Int32) (_ : Unit) => r = -9) (fun (_ : Unit) (t : State) => wB E (va_A [(h0, .inr (12, mO q))] sz) [] t) (va_A [(h0, .inr (12, mO q))] sz)) 0 0 (va_A [(h0, .inr (12, mO q))] sz) := by
  refine Met.ofW (cc := cX12_planned) (maxL := 2) (ret := (some .int)) (by decide) rfl ?_
  intro p e s m args below meth c s₁ B hml hv
  obtain ⟨rfl, hsz, hP, hkn, hD0, hst⟩ := hv
  have hx := B.exec
  have hb := B.bytes
  have hr := B.returns
  have hts := atoms_spec (ws := wsX12_planned) B.pre
  have hown : s.vm.findClass RX12 = some m.cls := findClass_of_methodNamed B.named
  have hlocks := B.notSynchronized
  subst hsz
  have hD := hD0.self (sz := s.heap.size)
  have hK := hkn.1
  have hAO := hkn.2.2
  generalize hAe : va_A [(h0, .inr (12, mO q))] s.heap.size = A at hD hst ⊢
  have hA : ∀ q : Nat, s.heap.size ≤ q → A q := fun q h => by rw [← hAe]; exact Or.inr h
  have hS : va_S A s.heap s.heap [] := va_S.rf
  have hP : va_P E.1 vwCl [(h0, .inr (12, mO q))] s.heap := hP
  have hl := lv_entry ([.ref h0, .int what]) (n := 2) (Nat.le_of_ble_eq_true rfl)
  rw [lg_entry_eq]
  generalize (lg_sl ([.ref h0, .int what]) ++ List.replicate (2 - (lg_sl ([.ref h0, .int what])).length) Slot.unset).toArray = ls at hl ⊢
  have hl : lv_has ls 2 [(0, .ref h0), (1, .int what)] := hl
  have fl139 := hts (.fieldLink RX12 139 "BoatsHomeModel" "bestGiven" "[I") (by decide +kernel)
  have fl145 := hts (.fieldLink RX12 145 "BoatsHomeModel" "beginsOn" "[I") (by decide +kernel)
  have fl289 := hts (.fieldLink RX12 289 "BoatsHomeModel" "deliveries" "I") (by decide +kernel)
  have fl292 := hts (.fieldLink RX12 292 "BoatsHomeModel" "isPlanned" "Z") (by decide +kernel)
  have fl303 := hts (.fieldLink RX12 303 "BoatsHomeModel" "bestCost" "I") (by decide +kernel)
  have inX12 : ∀ w ∈ u_ws RX12 TX12 59, w ∈ wsX12_planned := by decide +kernel
  refine lv_aload_n hx hb dX12_planned_0 rfl (lv_at hl 0 rfl) ?_
  refine va_get (D := E.1) (ci := 12) (v := .int 0) (C := RX12) (T := TX12) (N := 59) hx hb hts inX12 hown hK hP 0 rfl rfl 50 (by decide) fl292 (fun _ h9 => h9) rfl dX12_planned_1 ?_
  refine lv_if_ne (tgt := 10) hx hb dX12_planned_4 (by decide) (fun c9 => absurd c9 (by decide)) (fun _ => ?_)
  refine lv_bipush (v := (-9)) hx hb dX12_planned_7 (by decide) ?_
  have hP9 := hP.sub (ws' := []) [] rfl
  have hD9 := hD.sub (ws' := []) [] (by decide) rfl
  exact W.iret (v := (-9)) hx hb hr (fun t ht hW => ⟨⟨(-9), (), rfl, rfl, by rw [ht]; exact hP9, hD9⟩, hS.F ht⟩) hS.2.2 dX12_planned_9
set_option maxHeartbeats 4000000 in
set_option maxRecDepth 100000 in
theorem c_X12_count (l : Launch) (E : vE) (h0 : Nat) (q : Nat → Nat) (fc : Nat → Int32) (what : Int32) (sz : Nat) (hfc : ∀ k, k < 4 → fc k = -1) : Met l yX12_count wsX12_count ({ frames := 2, cells := 0, slots := 0, locals := 42 }) (pcW E [.ref h0, .int what] sz [(h0, .inr (12, mO q)), (q 47, .inl (E.2 0, 4, .inl fc)), (q 11, .inl (E.2 0, 7, .inl (fun _ => 0))), (q 13, .inl (E.2 0, 7, .inl (fun _ => 0))), (q 19, .inl (E.2 0, 10, .inl (fun _ => 0)))]) (va_Qi (fun (r : Int32) (_ : Unit) => r = countS what) (fun (_ : Unit) (t : State) => wB E (va_A [(h0, .inr (12, mO q)), (q 47, .inl (E.2 0, 4, .inl fc)), (q 11, .inl (E.2 0, 7, .inl (fun _ => 0))), (q 13, .inl (E.2 0, 7, .inl (fun _ => 0))), (q 19, .inl (E.2 0, 10, .inl (fun _ => 0)))] sz) [] t) (va_A [(h0, .inr (12, mO q)), (q 47, .inl (E.2 0, 4, .inl fc)), (q 11, .inl (E.2 0, 7, .inl (fun _ => 0))), (q 13, .inl (E.2 0, 7, .inl (fun _ => 0))), (q 19, .inl (E.2 0, 10, .inl (fun _ => 0)))] sz)) 0 0 (va_A [(h0, .inr (12, mO q)), (q 47, .inl (E.2 0, 4, .inl fc)), (q 11, .inl (E.2 0, 7, .inl (fun _ => 0))), (q 13, .inl (E.2 0, 7, .inl (fun _ => 0))), (q 19, .inl (E.2 0, 10, .inl (fun _ => 0)))] sz) := by
  refine Met.ofW (cc := cX12_count) (maxL := 4) (ret := (some .int)) (by decide) rfl ?_
  intro p e s m args below meth c s₁ B hml hv
  obtain ⟨rfl, hsz, hP, hkn, hD0, hst⟩ := hv
  have hx := B.exec
  have hb := B.bytes
  have hr := B.returns
  have hts := atoms_spec (ws := wsX12_count) B.pre
  have hown : s.vm.findClass RX12 = some m.cls := findClass_of_methodNamed B.named
  have hlocks := B.notSynchronized
  subst hsz
  have hD := hD0.self (sz := s.heap.size)
  have hK := hkn.1
  have hAO := hkn.2.2
  generalize hAe : va_A [(h0, .inr (12, mO q)), (q 47, .inl (E.2 0, 4, .inl fc)), (q 11, .inl (E.2 0, 7, .inl (fun _ => 0))), (q 13, .inl (E.2 0, 7, .inl (fun _ => 0))), (q 19, .inl (E.2 0, 10, .inl (fun _ => 0)))] s.heap.size = A at hD hst ⊢
  have hA : ∀ q : Nat, s.heap.size ≤ q → A q := fun q h => by rw [← hAe]; exact Or.inr h
  have hS : va_S A s.heap s.heap [] := va_S.rf
  have hP : va_P E.1 vwCl [(h0, .inr (12, mO q)), (q 47, .inl (E.2 0, 4, .inl fc)), (q 11, .inl (E.2 0, 7, .inl (fun _ => 0))), (q 13, .inl (E.2 0, 7, .inl (fun _ => 0))), (q 19, .inl (E.2 0, 10, .inl (fun _ => 0)))] s.heap := hP
  have hl := lv_entry ([.ref h0, .int what]) (n := 4) (Nat.le_of_ble_eq_true rfl)
  rw [lg_entry_eq]
  generalize (lg_sl ([.ref h0, .int what]) ++ List.replicate (4 - (lg_sl ([.ref h0, .int what])).length) Slot.unset).toArray = ls at hl ⊢
  have hl : lv_has ls 4 [(0, .ref h0), (1, .int what)] := hl
  have fl21 := hts (.fieldLink RX12 21 "BoatsHomeModel" "ruleMany" "[I") (by decide +kernel)
  have fl27 := hts (.fieldLink RX12 27 "BoatsHomeModel" "boxMany" "[I") (by decide +kernel)
  have fl42 := hts (.fieldLink RX12 42 "BoatsHomeModel" "ports" "[I") (by decide +kernel)
  have fl121 := hts (.fieldLink RX12 121 "BoatsHomeModel" "crewPort" "[I") (by decide +kernel)
  have fl152 := hts (.fieldLink RX12 152 "BoatsHomeModel" "taped" "I") (by decide +kernel)
  have fl280 := hts (.fieldLink RX12 280 "BoatsHomeModel" "worked" "I") (by decide +kernel)
  have fl289 := hts (.fieldLink RX12 289 "BoatsHomeModel" "deliveries" "I") (by decide +kernel)
  have inX12 : ∀ w ∈ u_ws RX12 TX12 59, w ∈ wsX12_count := by decide +kernel
  refine lv_iconst (v := 0) hx hb dX12_count_0 (by decide) ?_
  refine lv_istore_n (lv' := [(2, .int 0), (0, .ref h0), (1, .int what)]) hx hb dX12_count_1 rfl hl (by decide) rfl (fun ls hl => ?_)
  refine lv_iload_n hx hb dX12_count_2 rfl (lv_at hl 2 rfl) ?_
  by_cases c1 : what = 0
  · refine lv_tableIn (tgt := 32) hx hb dX12_count_3 (by rw [c1]; decide) (by rw [c1]; decide) (off := 29) (by rw [c1]; rfl) (by decide) ?_
    refine lv_aload_n hx hb dX12_count_32 rfl (lv_at hl 1 rfl) ?_
    refine va_get (D := E.1) (ci := 12) (v := .int 0) (C := RX12) (T := TX12) (N := 59) hx hb hts inX12 hown hK hP 0 rfl rfl 23 (by decide) fl280 (fun _ h9 => h9) rfl dX12_count_33 ?_
    have hP9 := hP.sub (ws' := []) [] rfl
    have hD9 := hD.sub (ws' := []) [] (by decide) rfl
    exact W.iret (v := 0) hx hb hr (fun t ht hW => ⟨⟨0, (), rfl, (by rw [c1]; decide), by rw [ht]; exact hP9, hD9⟩, hS.F ht⟩) hS.2.2 dX12_count_36
  by_cases c2 : what = 1
  · refine lv_tableIn (tgt := 37) hx hb dX12_count_3 (by rw [c2]; decide) (by rw [c2]; decide) (off := 34) (by rw [c2]; rfl) (by decide) ?_
    refine lv_aload_n hx hb dX12_count_37 rfl (lv_at hl 1 rfl) ?_
    refine va_get (D := E.1) (ci := 12) (v := .int 0) (C := RX12) (T := TX12) (N := 59) hx hb hts inX12 hown hK hP 0 rfl rfl 41 (by decide) fl289 (fun _ h9 => h9) rfl dX12_count_38 ?_
    have hP9 := hP.sub (ws' := []) [] rfl
    have hD9 := hD.sub (ws' := []) [] (by decide) rfl
    exact W.iret (v := 0) hx hb hr (fun t ht hW => ⟨⟨0, (), rfl, (by rw [c2]; decide), by rw [ht]; exact hP9, hD9⟩, hS.F ht⟩) hS.2.2 dX12_count_41
  by_cases c3 : what = 2
  · refine lv_tableIn (tgt := 42) hx hb dX12_count_3 (by rw [c3]; decide) (by rw [c3]; decide) (off := 39) (by rw [c3]; rfl) (by decide) ?_
    refine lv_iconst (v := 0) hx hb dX12_count_42 (by decide) ?_
    refine lv_istore_n (lv' := [(3, .int 0), (2, .int 0), (0, .ref h0), (1, .int what)]) hx hb dX12_count_43 rfl hl (by decide) rfl (fun ls hl => ?_)
    refine lv_iload_n hx hb dX12_count_44 rfl (lv_at hl 0 rfl) ?_
    refine lv_iconst (v := 4) hx hb dX12_count_45 (by decide) ?_
    refine lv_icmp_ge (tgt := 73) hx hb dX12_count_46 (by decide) (fun c9 => absurd c9 (by decide)) (fun _ => ?_)
    refine lv_iload_n hx hb dX12_count_49 rfl (lv_at hl 1 rfl) ?_
    refine lv_aload_n hx hb dX12_count_50 rfl (lv_at hl 2 rfl) ?_
    refine va_get (D := E.1) (ci := 12) (v := .ref (q 47)) (C := RX12) (T := TX12) (N := 59) hx hb hts inX12 hown hK hP 0 rfl rfl 47 (by decide) fl121 (fun _ h9 => h9) rfl dX12_count_51 ?_
    refine lv_iload_n hx hb dX12_count_54 rfl (lv_at hl 0 rfl) ?_
    refine va_iald hx hb hK hP 1 0 rfl rfl (show vp_in 0 4 from by unfold vp_in; decide) dX12_count_55 ?_
    refine lv_topi (fun x4 ex4 => ?_)
    obtain rfl : x4 = -1 := ex4.trans (hfc 0 (by decide))
    refine lv_iconst (v := (-1)) hx hb dX12_count_56 (by decide) ?_
    refine lv_icmp_eq (tgt := 64) hx hb dX12_count_57 (by decide) (fun _ => ?_) (fun c9 => absurd c9 (by decide))
    refine lv_iconst (v := 0) hx hb dX12_count_64 (by decide) ?_
    refine lv_iadd hx hb dX12_count_65 ?_
    refine lv_topi (fun x5 ex5 => ?_)
    obtain rfl : x5 = 0 := ex5.trans (by decide +kernel)
    refine lv_istore_n (lv' := [(2, .int 0), (3, .int 0), (0, .ref h0), (1, .int what)]) hx hb dX12_count_66 rfl hl (by decide) rfl (fun ls hl => ?_)
    refine lv_iinc (v := 1) (lv' := [(3, .int 1), (2, .int 0), (0, .ref h0), (1, .int what)]) hx hb dX12_count_67 hl (k := 1) rfl (by decide) (by decide) rfl (fun ls hl => ?_)
    refine lv_goto (tgt := 44) hx hb dX12_count_70 (by decide) ?_
    refine lv_iload_n hx hb dX12_count_44 rfl (lv_at hl 0 rfl) ?_
    refine lv_iconst (v := 4) hx hb dX12_count_45 (by decide) ?_
    refine lv_icmp_ge (tgt := 73) hx hb dX12_count_46 (by decide) (fun c9 => absurd c9 (by decide)) (fun _ => ?_)
    refine lv_iload_n hx hb dX12_count_49 rfl (lv_at hl 1 rfl) ?_
    refine lv_aload_n hx hb dX12_count_50 rfl (lv_at hl 2 rfl) ?_
    refine va_get (D := E.1) (ci := 12) (v := .ref (q 47)) (C := RX12) (T := TX12) (N := 59) hx hb hts inX12 hown hK hP 0 rfl rfl 47 (by decide) fl121 (fun _ h9 => h9) rfl dX12_count_51 ?_
    refine lv_iload_n hx hb dX12_count_54 rfl (lv_at hl 0 rfl) ?_
    refine va_iald hx hb hK hP 1 0 rfl rfl (show vp_in 1 4 from by unfold vp_in; decide) dX12_count_55 ?_
    refine lv_topi (fun x6 ex6 => ?_)
    obtain rfl : x6 = -1 := ex6.trans (hfc 1 (by decide))
    refine lv_iconst (v := (-1)) hx hb dX12_count_56 (by decide) ?_
    refine lv_icmp_eq (tgt := 64) hx hb dX12_count_57 (by decide) (fun _ => ?_) (fun c9 => absurd c9 (by decide))
    refine lv_iconst (v := 0) hx hb dX12_count_64 (by decide) ?_
    refine lv_iadd hx hb dX12_count_65 ?_
    refine lv_topi (fun x7 ex7 => ?_)
    obtain rfl : x7 = 0 := ex7.trans (by decide +kernel)
    refine lv_istore_n (lv' := [(2, .int 0), (3, .int 1), (0, .ref h0), (1, .int what)]) hx hb dX12_count_66 rfl hl (by decide) rfl (fun ls hl => ?_)
    refine lv_iinc (v := 2) (lv' := [(3, .int 2), (2, .int 0), (0, .ref h0), (1, .int what)]) hx hb dX12_count_67 hl (k := 1) rfl (by decide) (by decide) rfl (fun ls hl => ?_)
    refine lv_goto (tgt := 44) hx hb dX12_count_70 (by decide) ?_
    refine lv_iload_n hx hb dX12_count_44 rfl (lv_at hl 0 rfl) ?_
    refine lv_iconst (v := 4) hx hb dX12_count_45 (by decide) ?_
    refine lv_icmp_ge (tgt := 73) hx hb dX12_count_46 (by decide) (fun c9 => absurd c9 (by decide)) (fun _ => ?_)
    refine lv_iload_n hx hb dX12_count_49 rfl (lv_at hl 1 rfl) ?_
    refine lv_aload_n hx hb dX12_count_50 rfl (lv_at hl 2 rfl) ?_
    refine va_get (D := E.1) (ci := 12) (v := .ref (q 47)) (C := RX12) (T := TX12) (N := 59) hx hb hts inX12 hown hK hP 0 rfl rfl 47 (by decide) fl121 (fun _ h9 => h9) rfl dX12_count_51 ?_
    refine lv_iload_n hx hb dX12_count_54 rfl (lv_at hl 0 rfl) ?_
    refine va_iald hx hb hK hP 1 0 rfl rfl (show vp_in 2 4 from by unfold vp_in; decide) dX12_count_55 ?_
    refine lv_topi (fun x8 ex8 => ?_)
    obtain rfl : x8 = -1 := ex8.trans (hfc 2 (by decide))
    refine lv_iconst (v := (-1)) hx hb dX12_count_56 (by decide) ?_
    refine lv_icmp_eq (tgt := 64) hx hb dX12_count_57 (by decide) (fun _ => ?_) (fun c9 => absurd c9 (by decide))
    refine lv_iconst (v := 0) hx hb dX12_count_64 (by decide) ?_
    refine lv_iadd hx hb dX12_count_65 ?_
    refine lv_topi (fun x9 ex9 => ?_)
    obtain rfl : x9 = 0 := ex9.trans (by decide +kernel)
    refine lv_istore_n (lv' := [(2, .int 0), (3, .int 2), (0, .ref h0), (1, .int what)]) hx hb dX12_count_66 rfl hl (by decide) rfl (fun ls hl => ?_)
    refine lv_iinc (v := 3) (lv' := [(3, .int 3), (2, .int 0), (0, .ref h0), (1, .int what)]) hx hb dX12_count_67 hl (k := 1) rfl (by decide) (by decide) rfl (fun ls hl => ?_)
    refine lv_goto (tgt := 44) hx hb dX12_count_70 (by decide) ?_
    refine lv_iload_n hx hb dX12_count_44 rfl (lv_at hl 0 rfl) ?_
    refine lv_iconst (v := 4) hx hb dX12_count_45 (by decide) ?_
    refine lv_icmp_ge (tgt := 73) hx hb dX12_count_46 (by decide) (fun c9 => absurd c9 (by decide)) (fun _ => ?_)
    refine lv_iload_n hx hb dX12_count_49 rfl (lv_at hl 1 rfl) ?_
    refine lv_aload_n hx hb dX12_count_50 rfl (lv_at hl 2 rfl) ?_
    refine va_get (D := E.1) (ci := 12) (v := .ref (q 47)) (C := RX12) (T := TX12) (N := 59) hx hb hts inX12 hown hK hP 0 rfl rfl 47 (by decide) fl121 (fun _ h9 => h9) rfl dX12_count_51 ?_
    refine lv_iload_n hx hb dX12_count_54 rfl (lv_at hl 0 rfl) ?_
    refine va_iald hx hb hK hP 1 0 rfl rfl (show vp_in 3 4 from by unfold vp_in; decide) dX12_count_55 ?_
    refine lv_topi (fun x10 ex10 => ?_)
    obtain rfl : x10 = -1 := ex10.trans (hfc 3 (by decide))
    refine lv_iconst (v := (-1)) hx hb dX12_count_56 (by decide) ?_
    refine lv_icmp_eq (tgt := 64) hx hb dX12_count_57 (by decide) (fun _ => ?_) (fun c9 => absurd c9 (by decide))
    refine lv_iconst (v := 0) hx hb dX12_count_64 (by decide) ?_
    refine lv_iadd hx hb dX12_count_65 ?_
    refine lv_topi (fun x11 ex11 => ?_)
    obtain rfl : x11 = 0 := ex11.trans (by decide +kernel)
    refine lv_istore_n (lv' := [(2, .int 0), (3, .int 3), (0, .ref h0), (1, .int what)]) hx hb dX12_count_66 rfl hl (by decide) rfl (fun ls hl => ?_)
    refine lv_iinc (v := 4) (lv' := [(3, .int 4), (2, .int 0), (0, .ref h0), (1, .int what)]) hx hb dX12_count_67 hl (k := 1) rfl (by decide) (by decide) rfl (fun ls hl => ?_)
    refine lv_goto (tgt := 44) hx hb dX12_count_70 (by decide) ?_
    refine lv_iload_n hx hb dX12_count_44 rfl (lv_at hl 0 rfl) ?_
    refine lv_iconst (v := 4) hx hb dX12_count_45 (by decide) ?_
    refine lv_icmp_ge (tgt := 73) hx hb dX12_count_46 (by decide) (fun _ => ?_) (fun c9 => absurd c9 (by decide))
    refine lv_iload_n hx hb dX12_count_73 rfl (lv_at hl 1 rfl) ?_
    have hP9 := hP.sub (ws' := []) [] rfl
    have hD9 := hD.sub (ws' := []) [] (by decide) rfl
    exact W.iret (v := 0) hx hb hr (fun t ht hW => ⟨⟨0, (), rfl, (by rw [c3]; decide), by rw [ht]; exact hP9, hD9⟩, hS.F ht⟩) hS.2.2 dX12_count_74
  by_cases c12 : what = 3
  · refine lv_tableIn (tgt := 75) hx hb dX12_count_3 (by rw [c12]; decide) (by rw [c12]; decide) (off := 72) (by rw [c12]; rfl) (by decide) ?_
    refine lv_aload_n hx hb dX12_count_75 rfl (lv_at hl 1 rfl) ?_
    refine va_get (D := E.1) (ci := 12) (v := .int 0) (C := RX12) (T := TX12) (N := 59) hx hb hts inX12 hown hK hP 0 rfl rfl 1 (by decide) fl152 (fun _ h9 => h9) rfl dX12_count_76 ?_
    have hP9 := hP.sub (ws' := []) [] rfl
    have hD9 := hD.sub (ws' := []) [] (by decide) rfl
    exact W.iret (v := 0) hx hb hr (fun t ht hW => ⟨⟨0, (), rfl, (by rw [c12]; decide), by rw [ht]; exact hP9, hD9⟩, hS.F ht⟩) hS.2.2 dX12_count_79
  refine lv_tableOut (tgt := 80) hx hb dX12_count_3 (by have g0 : ¬ what.toInt = 0 := fun h => c1 (Int32.toInt_inj.mp (h.trans (by decide))); have g1 : ¬ what.toInt = 1 := fun h => c2 (Int32.toInt_inj.mp (h.trans (by decide))); have g2 : ¬ what.toInt = 2 := fun h => c3 (Int32.toInt_inj.mp (h.trans (by decide))); have g3 : ¬ what.toInt = 3 := fun h => c12 (Int32.toInt_inj.mp (h.trans (by decide))); omega) (by decide) ?_
  refine lv_iload_n hx hb dX12_count_80 rfl (lv_at hl 2 rfl) ?_
  refine lv_bipush (v := 10) hx hb dX12_count_81 (by decide) ?_
  refine lv_bipush (v := 15) hx hb dX12_count_83 (by decide) ?_
  have hPc := hP.sub (ws' := []) [] rfl
  have hDc := hD.sub (ws' := []) [] (by decide) rfl
  have hFc := va_free (wc := []) hD hS hA [] rfl
  refine va_calli (va_runS (As := [.int what, .int 10, .int 15]) (rest := []) ⟨hx, hb, hml, hown, hts⟩ (c_X12_in l E what 10 15 s.heap.size ) (va_cwS 3 hts gX12_count_X12_in rfl rfl rfl (by decide +kernel) ⟨Nat.le_of_ble_eq_true rfl, Nat.le_of_ble_eq_true rfl⟩) ⟨pcW_blind, (pcW_pre hPc hkn hDc hst hS hFc)⟩ rfl rfl hl.1 rfl (lv_room (Nat.le_of_ble_eq_true rfl)) dX12_count_85 ⟨Nat.le_of_ble_eq_true rfl, Nat.le_of_ble_eq_true rfl⟩) hS (fun q _ h => hFc q h) hFc (fun r13 u t H1 locs ht hvm hw14 hB hz1 hk1 hS => ?_)
  obtain ⟨hP1, hD1⟩ := hB
  rw [ht] at hP1
  try dsimp only at hw14
  obtain ⟨hP, hD⟩ := va_join (wr := [(h0, .inr (12, mO q)), (q 47, .inl (E.2 0, 4, .inl fc)), (q 11, .inl (E.2 0, 7, .inl (fun _ => 0))), (q 13, .inl (E.2 0, 7, .inl (fun _ => 0))), (q 19, .inl (E.2 0, 10, .inl (fun _ => 0)))]) (w1 := []) hP hD [] [0, 1, 2, 3, 4] rfl rfl (by decide) (by decide) hk1 hFc hP1 hD1
  generalize H1 = H at hP hS ⊢
  have hP : va_P E.1 vwCl [(h0, .inr (12, mO q)), (q 47, .inl (E.2 0, 4, .inl fc)), (q 11, .inl (E.2 0, 7, .inl (fun _ => 0))), (q 13, .inl (E.2 0, 7, .inl (fun _ => 0))), (q 19, .inl (E.2 0, 10, .inl (fun _ => 0)))] H := hP
  have hD : va_D A [(h0, .inr (12, mO q)), (q 47, .inl (E.2 0, 4, .inl fc)), (q 11, .inl (E.2 0, 7, .inl (fun _ => 0))), (q 13, .inl (E.2 0, 7, .inl (fun _ => 0))), (q 19, .inl (E.2 0, 10, .inl (fun _ => 0)))] := hD
  refine lv_if_eq (tgt := 101) hx hb dX12_count_88 (by decide) (fun c15 => ?_) (fun c15 => ?_)
  · have b16 : inR what 10 15 = false := bz hw14 c15
    refine lv_iload_n hx hb dX12_count_101 rfl (lv_at hl 2 rfl) ?_
    refine lv_bipush (v := 20) hx hb dX12_count_102 (by decide) ?_
    refine lv_bipush (v := 25) hx hb dX12_count_104 (by decide) ?_
    have hPc := hP.sub (ws' := []) [] rfl
    have hDc := hD.sub (ws' := []) [] (by decide) rfl
    have hFc := va_free (wc := []) hD hS hA [] rfl
    refine va_calli (va_runS (As := [.int what, .int 20, .int 25]) (rest := []) ⟨hx, hb, hml, hown, hts⟩ (c_X12_in l E what 20 25 H.size ) (va_cwS 3 hts gX12_count_X12_in rfl rfl rfl (by decide +kernel) ⟨Nat.le_of_ble_eq_true rfl, Nat.le_of_ble_eq_true rfl⟩) ⟨pcW_blind, (pcW_pre hPc hkn hDc hst hS hFc)⟩ rfl rfl hl.1 rfl (lv_room (Nat.le_of_ble_eq_true rfl)) dX12_count_106 ⟨Nat.le_of_ble_eq_true rfl, Nat.le_of_ble_eq_true rfl⟩) hS (fun q _ h => hFc q h) hFc (fun r17 u t H1 locs ht hvm hw18 hB hz1 hk1 hS => ?_)
    obtain ⟨hP1, hD1⟩ := hB
    rw [ht] at hP1
    try dsimp only at hw18
    obtain ⟨hP, hD⟩ := va_join (wr := [(h0, .inr (12, mO q)), (q 47, .inl (E.2 0, 4, .inl fc)), (q 11, .inl (E.2 0, 7, .inl (fun _ => 0))), (q 13, .inl (E.2 0, 7, .inl (fun _ => 0))), (q 19, .inl (E.2 0, 10, .inl (fun _ => 0)))]) (w1 := []) hP hD [] [0, 1, 2, 3, 4] rfl rfl (by decide) (by decide) hk1 hFc hP1 hD1
    generalize H1 = H at hP hS ⊢
    have hP : va_P E.1 vwCl [(h0, .inr (12, mO q)), (q 47, .inl (E.2 0, 4, .inl fc)), (q 11, .inl (E.2 0, 7, .inl (fun _ => 0))), (q 13, .inl (E.2 0, 7, .inl (fun _ => 0))), (q 19, .inl (E.2 0, 10, .inl (fun _ => 0)))] H := hP
    have hD : va_D A [(h0, .inr (12, mO q)), (q 47, .inl (E.2 0, 4, .inl fc)), (q 11, .inl (E.2 0, 7, .inl (fun _ => 0))), (q 13, .inl (E.2 0, 7, .inl (fun _ => 0))), (q 19, .inl (E.2 0, 10, .inl (fun _ => 0)))] := hD
    refine lv_if_eq (tgt := 122) hx hb dX12_count_109 (by decide) (fun c19 => ?_) (fun c19 => ?_)
    · have b20 : inR what 20 25 = false := bz hw18 c19
      refine lv_iload_n hx hb dX12_count_122 rfl (lv_at hl 2 rfl) ?_
      refine lv_bipush (v := 30) hx hb dX12_count_123 (by decide) ?_
      refine lv_bipush (v := 39) hx hb dX12_count_125 (by decide) ?_
      have hPc := hP.sub (ws' := []) [] rfl
      have hDc := hD.sub (ws' := []) [] (by decide) rfl
      have hFc := va_free (wc := []) hD hS hA [] rfl
      refine va_calli (va_runS (As := [.int what, .int 30, .int 39]) (rest := []) ⟨hx, hb, hml, hown, hts⟩ (c_X12_in l E what 30 39 H.size ) (va_cwS 3 hts gX12_count_X12_in rfl rfl rfl (by decide +kernel) ⟨Nat.le_of_ble_eq_true rfl, Nat.le_of_ble_eq_true rfl⟩) ⟨pcW_blind, (pcW_pre hPc hkn hDc hst hS hFc)⟩ rfl rfl hl.1 rfl (lv_room (Nat.le_of_ble_eq_true rfl)) dX12_count_127 ⟨Nat.le_of_ble_eq_true rfl, Nat.le_of_ble_eq_true rfl⟩) hS (fun q _ h => hFc q h) hFc (fun r21 u t H1 locs ht hvm hw22 hB hz1 hk1 hS => ?_)
      obtain ⟨hP1, hD1⟩ := hB
      rw [ht] at hP1
      try dsimp only at hw22
      obtain ⟨hP, hD⟩ := va_join (wr := [(h0, .inr (12, mO q)), (q 47, .inl (E.2 0, 4, .inl fc)), (q 11, .inl (E.2 0, 7, .inl (fun _ => 0))), (q 13, .inl (E.2 0, 7, .inl (fun _ => 0))), (q 19, .inl (E.2 0, 10, .inl (fun _ => 0)))]) (w1 := []) hP hD [] [0, 1, 2, 3, 4] rfl rfl (by decide) (by decide) hk1 hFc hP1 hD1
      generalize H1 = H at hP hS ⊢
      have hP : va_P E.1 vwCl [(h0, .inr (12, mO q)), (q 47, .inl (E.2 0, 4, .inl fc)), (q 11, .inl (E.2 0, 7, .inl (fun _ => 0))), (q 13, .inl (E.2 0, 7, .inl (fun _ => 0))), (q 19, .inl (E.2 0, 10, .inl (fun _ => 0)))] H := hP
      have hD : va_D A [(h0, .inr (12, mO q)), (q 47, .inl (E.2 0, 4, .inl fc)), (q 11, .inl (E.2 0, 7, .inl (fun _ => 0))), (q 13, .inl (E.2 0, 7, .inl (fun _ => 0))), (q 19, .inl (E.2 0, 10, .inl (fun _ => 0)))] := hD
      refine lv_if_eq (tgt := 145) hx hb dX12_count_130 (by decide) (fun c23 => ?_) (fun c23 => ?_)
      · have b24 : inR what 30 39 = false := bz hw22 c23
        refine lv_iconst (v := (-1)) hx hb dX12_count_145 (by decide) ?_
        have hP9 := hP.sub (ws' := []) [] rfl
        have hD9 := hD.sub (ws' := []) [] (by decide) rfl
        exact W.iret (v := (-1)) hx hb hr (fun t ht hW => ⟨⟨(-1), (), rfl, (by unfold countS; first | (rw [b16, b20, b24]; done) | (rw [b16, b20, b24]; rfl) | (rw [b16, b20, b24, decide_eq_false c1, decide_eq_false c2, decide_eq_false c3, decide_eq_false c12]; done) | (rw [b16, b20, b24, decide_eq_false c1, decide_eq_false c2, decide_eq_false c3, decide_eq_false c12]; rfl)), by rw [ht]; exact hP9, hD9⟩, hS.F ht⟩) hS.2.2 dX12_count_146
      · have b25 : inR what 30 39 = true := bn hw22 c23
        refine lv_aload_n hx hb dX12_count_133 rfl (lv_at hl 1 rfl) ?_
        refine va_get (D := E.1) (ci := 12) (v := .ref (q 19)) (C := RX12) (T := TX12) (N := 59) hx hb hts inX12 hown hK hP 0 rfl rfl 19 (by decide) fl42 (fun _ h9 => h9) rfl dX12_count_134 ?_
        refine lv_iload_n hx hb dX12_count_137 rfl (lv_at hl 2 rfl) ?_
        refine lv_bipush (v := 30) hx hb dX12_count_138 (by decide) ?_
        refine lv_isub hx hb dX12_count_140 ?_
        refine lv_topi (fun x26 ex26 => ?_)
        have hs27 : vp_in x26 10 := by rw [ex26]; exact (ixS b25 (a := 30) rfl (b := 39) (by decide) (by decide) (by decide) (by decide)).1
        refine va_iald hx hb hK hP 4 0 rfl rfl hs27 dX12_count_141 ?_
        refine lv_goto (tgt := 146) hx hb dX12_count_142 (by decide) ?_
        have hP9 := hP.sub (ws' := []) [] rfl
        have hD9 := hD.sub (ws' := []) [] (by decide) rfl
        exact W.iret (v := 0) hx hb hr (fun t ht hW => ⟨⟨0, (), rfl, (by unfold countS; first | (rw [b16, b20, b25]; done) | (rw [b16, b20, b25]; rfl) | (rw [b16, b20, b25, decide_eq_false c1, decide_eq_false c2, decide_eq_false c3, decide_eq_false c12]; done) | (rw [b16, b20, b25, decide_eq_false c1, decide_eq_false c2, decide_eq_false c3, decide_eq_false c12]; rfl)), by rw [ht]; exact hP9, hD9⟩, hS.F ht⟩) hS.2.2 dX12_count_146
    · have b28 : inR what 20 25 = true := bn hw18 c19
      refine lv_aload_n hx hb dX12_count_112 rfl (lv_at hl 1 rfl) ?_
      refine va_get (D := E.1) (ci := 12) (v := .ref (q 13)) (C := RX12) (T := TX12) (N := 59) hx hb hts inX12 hown hK hP 0 rfl rfl 13 (by decide) fl27 (fun _ h9 => h9) rfl dX12_count_113 ?_
      refine lv_iload_n hx hb dX12_count_116 rfl (lv_at hl 2 rfl) ?_
      refine lv_bipush (v := 20) hx hb dX12_count_117 (by decide) ?_
      refine lv_isub hx hb dX12_count_119 ?_
      refine lv_topi (fun x29 ex29 => ?_)
      have hs30 : vp_in x29 7 := by rw [ex29]; exact (ixS b28 (a := 20) rfl (b := 25) (by decide) (by decide) (by decide) (by decide)).1
      refine va_iald hx hb hK hP 3 0 rfl rfl hs30 dX12_count_120 ?_
      have hP9 := hP.sub (ws' := []) [] rfl
      have hD9 := hD.sub (ws' := []) [] (by decide) rfl
      exact W.iret (v := 0) hx hb hr (fun t ht hW => ⟨⟨0, (), rfl, (by unfold countS; first | (rw [b16, b28]; done) | (rw [b16, b28]; rfl) | (rw [b16, b28, decide_eq_false c1, decide_eq_false c2, decide_eq_false c3, decide_eq_false c12]; done) | (rw [b16, b28, decide_eq_false c1, decide_eq_false c2, decide_eq_false c3, decide_eq_false c12]; rfl)), by rw [ht]; exact hP9, hD9⟩, hS.F ht⟩) hS.2.2 dX12_count_121
  · have b31 : inR what 10 15 = true := bn hw14 c15
    refine lv_aload_n hx hb dX12_count_91 rfl (lv_at hl 1 rfl) ?_
    refine va_get (D := E.1) (ci := 12) (v := .ref (q 11)) (C := RX12) (T := TX12) (N := 59) hx hb hts inX12 hown hK hP 0 rfl rfl 11 (by decide) fl21 (fun _ h9 => h9) rfl dX12_count_92 ?_
    refine lv_iload_n hx hb dX12_count_95 rfl (lv_at hl 2 rfl) ?_
    refine lv_bipush (v := 10) hx hb dX12_count_96 (by decide) ?_
    refine lv_isub hx hb dX12_count_98 ?_
    refine lv_topi (fun x32 ex32 => ?_)
    have hs33 : vp_in x32 7 := by rw [ex32]; exact (ixS b31 (a := 10) rfl (b := 15) (by decide) (by decide) (by decide) (by decide)).1
    refine va_iald hx hb hK hP 2 0 rfl rfl hs33 dX12_count_99 ?_
    have hP9 := hP.sub (ws' := []) [] rfl
    have hD9 := hD.sub (ws' := []) [] (by decide) rfl
    exact W.iret (v := 0) hx hb hr (fun t ht hW => ⟨⟨0, (), rfl, (by unfold countS; first | (rw [b31]; done) | (rw [b31]; rfl) | (rw [b31, decide_eq_false c1, decide_eq_false c2, decide_eq_false c3, decide_eq_false c12]; done) | (rw [b31, decide_eq_false c1, decide_eq_false c2, decide_eq_false c3, decide_eq_false c12]; rfl)), by rw [ht]; exact hP9, hD9⟩, hS.F ht⟩) hS.2.2 dX12_count_100
