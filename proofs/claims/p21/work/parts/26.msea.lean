set_option maxHeartbeats 4000000 in
set_option maxRecDepth 100000 in
theorem c_X12_between (l : Launch) (E : vE) (x : Int32) (y : Int32) (z : Int32) (sz : Nat) : Met l yX12_between wsX12_between ({ frames := 1, cells := 0, slots := 0, locals := 22 }) (pcW E [.int x, .int y, .int z] sz []) (va_Qi (fun (r : Int32) (_ : Unit) => r = 0 ∨ r = 1) (fun (_ : Unit) (t : State) => wB E (va_A [] sz) [] t) (va_A [] sz)) 0 0 (va_A [] sz) := by
  refine Met.ofW (cc := cX12_between) (maxL := 3) (ret := (some .boolean)) (by decide) rfl ?_
  intro p e s m args below meth c s₁ B hml hv
  obtain ⟨rfl, hsz, hP, hkn, hD0, hst⟩ := hv
  have hx := B.exec
  have hb := B.bytes
  have hr := B.returns
  have hts := atoms_spec (ws := wsX12_between) B.pre
  have hown : s.vm.findClass RX12 = some m.cls := findClass_of_methodNamed B.named
  have hlocks := B.notSynchronized
  subst hsz
  have hD := hD0.self (sz := s.heap.size)
  have hK := hkn.1
  have hAO := hkn.2.2.1
  generalize hAe : va_A [] s.heap.size = A at hD hst ⊢
  have hA : ∀ q : Nat, s.heap.size ≤ q → A q := fun q h => by rw [← hAe]; exact Or.inr h
  have hS : va_S A s.heap s.heap [] := va_S.rf
  have hP : va_P E.1 vwCl [] s.heap := hP
  have hl := lv_entry ([.int x, .int y, .int z]) (n := 3) (Nat.le_of_ble_eq_true rfl)
  rw [lg_entry_eq]
  generalize (lg_sl ([.int x, .int y, .int z]) ++ List.replicate (3 - (lg_sl ([.int x, .int y, .int z])).length) Slot.unset).toArray = ls at hl ⊢
  have hl : lv_has ls 3 [(0, .int x), (1, .int y), (2, .int z)] := hl
  refine lv_iload_n hx hb dX12_between_0 rfl (lv_at hl 1 rfl) ?_
  refine lv_iload_n hx hb dX12_between_1 rfl (lv_at hl 2 rfl) ?_
  refine lv_icmp_ge (tgt := 14) hx hb dX12_between_2 (by decide) (fun c_1 => ?_) (fun c_1 => ?_)
  · refine lv_iload_n hx hb dX12_between_14 rfl (lv_at hl 0 rfl) ?_
    refine lv_iload_n hx hb dX12_between_15 rfl (lv_at hl 2 rfl) ?_
    refine lv_iload_n hx hb dX12_between_16 rfl (lv_at hl 1 rfl) ?_
    have hPc := hP.sub (ws' := []) [] rfl
    have hDc := hD.sub (ws' := []) [] (by decide) rfl
    have hFc := va_free (wc := []) hD hS hA [] rfl
    refine va_calli (va_runS (As := [.int x, .int z, .int y]) (rest := []) ⟨hx, hb, hml, hown, hts⟩ (c_X12_in l E x z y s.heap.size ) (va_cwS 3 hts gX12_between_X12_in rfl rfl rfl hdS_X12_in ⟨Nat.le_of_ble_eq_true rfl, Nat.le_of_ble_eq_true rfl⟩) ⟨pcW_blind, (pcW_pre hPc hkn hDc hst hS hFc)⟩ rfl rfl hl.1 rfl (lv_room (Nat.le_of_ble_eq_true rfl)) dX12_between_17 ⟨Nat.le_of_ble_eq_true rfl, Nat.le_of_ble_eq_true rfl⟩) hS (fun q _ h => hFc q h) hFc (fun r_2 u t H1 locs ht hvm hw_3 hB hz1 hk1 hS => ?_)
    obtain ⟨hP1, hD1⟩ := hB
    rw [ht] at hP1
    try dsimp only at hw_3
    obtain ⟨hP, hD⟩ := va_join (wr := []) (w1 := []) hP hD [] [] rfl rfl (by decide) (by decide) hk1 hFc hP1 hD1
    generalize H1 = H at hP hS ⊢
    have hP : va_P E.1 vwCl [] H := hP
    have hD : va_D A [] := hD
    have hP9 := hP.sub (ws' := []) [] rfl
    have hD9 := hD.sub (ws' := []) [] (by decide) rfl
    exact W.zret (v := r_2) hx hb hr (by rw [hw_3]; exact bI_z _) (fun t ht hW => ⟨⟨r_2, (), rfl, (b01_of hw_3), by rw [ht]; exact hP9, hD9⟩, hS.F ht⟩) hS.2.2 dX12_between_20
  · refine lv_iload_n hx hb dX12_between_5 rfl (lv_at hl 0 rfl) ?_
    refine lv_iload_n hx hb dX12_between_6 rfl (lv_at hl 1 rfl) ?_
    refine lv_iload_n hx hb dX12_between_7 rfl (lv_at hl 2 rfl) ?_
    have hPc := hP.sub (ws' := []) [] rfl
    have hDc := hD.sub (ws' := []) [] (by decide) rfl
    have hFc := va_free (wc := []) hD hS hA [] rfl
    refine va_calli (va_runS (As := [.int x, .int y, .int z]) (rest := []) ⟨hx, hb, hml, hown, hts⟩ (c_X12_in l E x y z s.heap.size ) (va_cwS 3 hts gX12_between_X12_in rfl rfl rfl hdS_X12_in ⟨Nat.le_of_ble_eq_true rfl, Nat.le_of_ble_eq_true rfl⟩) ⟨pcW_blind, (pcW_pre hPc hkn hDc hst hS hFc)⟩ rfl rfl hl.1 rfl (lv_room (Nat.le_of_ble_eq_true rfl)) dX12_between_8 ⟨Nat.le_of_ble_eq_true rfl, Nat.le_of_ble_eq_true rfl⟩) hS (fun q _ h => hFc q h) hFc (fun r_4 u t H1 locs ht hvm hw_5 hB hz1 hk1 hS => ?_)
    obtain ⟨hP1, hD1⟩ := hB
    rw [ht] at hP1
    try dsimp only at hw_5
    obtain ⟨hP, hD⟩ := va_join (wr := []) (w1 := []) hP hD [] [] rfl rfl (by decide) (by decide) hk1 hFc hP1 hD1
    generalize H1 = H at hP hS ⊢
    have hP : va_P E.1 vwCl [] H := hP
    have hD : va_D A [] := hD
    refine lv_goto (tgt := 20) hx hb dX12_between_11 (by decide) ?_
    have hP9 := hP.sub (ws' := []) [] rfl
    have hD9 := hD.sub (ws' := []) [] (by decide) rfl
    exact W.zret (v := r_4) hx hb hr (by rw [hw_5]; exact bI_z _) (fun t ht hW => ⟨⟨r_4, (), rfl, (b01_of hw_5), by rw [ht]; exact hP9, hD9⟩, hS.F ht⟩) hS.2.2 dX12_between_20
set_option maxHeartbeats 4000000 in
set_option maxRecDepth 100000 in
theorem c_X12_zoneOf (l : Launch) (E : vE) (p_ : Nat) (sz : Nat) (hp1 : p_ < 3000) (hp2 : p_ % 100 < 20) : Met l yX12_zoneOf wsX12_zoneOf ({ frames := 0, cells := 0, slots := 0, locals := 0 }) (pcW E [.int (nI p_)] sz []) (va_Qi (fun (r : Int32) (_ : Unit) => inR r 0 23 = true) (fun (_ : Unit) (t : State) => wB E (va_A [] sz) [] t) (va_A [] sz)) 0 0 (va_A [] sz) := by
  refine Met.ofW (cc := cX12_zoneOf) (maxL := 1) (ret := (some .int)) (by decide) rfl ?_
  intro p e s m args below meth c s₁ B hml hv
  obtain ⟨rfl, hsz, hP, hkn, hD0, hst⟩ := hv
  have hx := B.exec
  have hb := B.bytes
  have hr := B.returns
  have hts := atoms_spec (ws := wsX12_zoneOf) B.pre
  have hown : s.vm.findClass RX12 = some m.cls := findClass_of_methodNamed B.named
  have hlocks := B.notSynchronized
  subst hsz
  have hD := hD0.self (sz := s.heap.size)
  have hK := hkn.1
  have hAO := hkn.2.2.1
  generalize hAe : va_A [] s.heap.size = A at hD hst ⊢
  have hA : ∀ q : Nat, s.heap.size ≤ q → A q := fun q h => by rw [← hAe]; exact Or.inr h
  have hS : va_S A s.heap s.heap [] := va_S.rf
  have hP : va_P E.1 vwCl [] s.heap := hP
  have hl := lv_entry ([.int (nI p_)]) (n := 1) (Nat.le_of_ble_eq_true rfl)
  rw [lg_entry_eq]
  generalize (lg_sl ([.int (nI p_)]) ++ List.replicate (1 - (lg_sl ([.int (nI p_)])).length) Slot.unset).toArray = ls at hl ⊢
  have hl : lv_has ls 1 [(0, .int (nI p_))] := hl
  refine lv_iload_n hx hb dX12_zoneOf_0 rfl (lv_at hl 0 rfl) ?_
  refine lv_bipush (v := 100) hx hb dX12_zoneOf_1 (by decide) ?_
  refine lv_irem hx hb dX12_zoneOf_3 (by decide) ?_
  refine lv_topi (fun x_1 ex_1 => ?_)
  obtain rfl : x_1 = nI (p_ % 100) := ex_1.trans (pk_rem (a := p_) (d := 100) (by omega) (by decide) (by decide))
  refine lv_iconst (v := 5) hx hb dX12_zoneOf_4 (by decide) ?_
  refine lv_idiv hx hb dX12_zoneOf_5 (by decide) ?_
  refine lv_topi (fun x_2 ex_2 => ?_)
  obtain rfl : x_2 = nI ((p_ % 100) / 5) := ex_2.trans (pk_div (a := (p_ % 100)) (d := 5) (by omega) (by decide) (by decide))
  refine lv_bipush (v := 6) hx hb dX12_zoneOf_6 (by decide) ?_
  refine lv_imul hx hb dX12_zoneOf_8 ?_
  refine lv_topi (fun x_3 ex_3 => ?_)
  obtain rfl : x_3 = nI (((p_ % 100) / 5) * 6) := ex_3.trans (pk_mul ((p_ % 100) / 5) 6)
  refine lv_iload_n hx hb dX12_zoneOf_9 rfl (lv_at hl 0 rfl) ?_
  refine lv_bipush (v := 100) hx hb dX12_zoneOf_10 (by decide) ?_
  refine lv_idiv hx hb dX12_zoneOf_12 (by decide) ?_
  refine lv_topi (fun x_4 ex_4 => ?_)
  obtain rfl : x_4 = nI (p_ / 100) := ex_4.trans (pk_div (a := p_) (d := 100) (by omega) (by decide) (by decide))
  refine lv_iconst (v := 5) hx hb dX12_zoneOf_13 (by decide) ?_
  refine lv_idiv hx hb dX12_zoneOf_14 (by decide) ?_
  refine lv_topi (fun x_5 ex_5 => ?_)
  obtain rfl : x_5 = nI ((p_ / 100) / 5) := ex_5.trans (pk_div (a := (p_ / 100)) (d := 5) (by omega) (by decide) (by decide))
  refine lv_iadd hx hb dX12_zoneOf_15 ?_
  refine lv_topi (fun x_6 ex_6 => ?_)
  obtain rfl : x_6 = nI ((((p_ % 100) / 5) * 6) + ((p_ / 100) / 5)) := ex_6.trans (nI_add (((p_ % 100) / 5) * 6) ((p_ / 100) / 5))
  have hP9 := hP.sub (ws' := []) [] rfl
  have hD9 := hD.sub (ws' := []) [] (by decide) rfl
  exact W.iret (v := (nI ((((p_ % 100) / 5) * 6) + ((p_ / 100) / 5)))) hx hb hr (fun t ht hW => ⟨⟨(nI ((((p_ % 100) / 5) * 6) + ((p_ / 100) / 5))), (), rfl, (inR_mk (n := 23) (by decide) (by omega)), by rw [ht]; exact hP9, hD9⟩, hS.F ht⟩) hS.2.2 dX12_zoneOf_16
set_option maxHeartbeats 4000000 in
set_option maxRecDepth 100000 in
theorem c_X12_monthOf (l : Launch) (E : vE) (d_ : Nat) (sz : Nat) (hd1 : d_ < 2 ^ 31) : Met l yX12_monthOf wsX12_monthOf ({ frames := 0, cells := 0, slots := 0, locals := 0 }) (pcW E [.int (nI d_)] sz []) (va_Qi (fun (r : Int32) (_ : Unit) => inR r 0 11 = true) (fun (_ : Unit) (t : State) => wB E (va_A [] sz) [] t) (va_A [] sz)) 0 0 (va_A [] sz) := by
  refine Met.ofW (cc := cX12_monthOf) (maxL := 1) (ret := (some .int)) (by decide) rfl ?_
  intro p e s m args below meth c s₁ B hml hv
  obtain ⟨rfl, hsz, hP, hkn, hD0, hst⟩ := hv
  have hx := B.exec
  have hb := B.bytes
  have hr := B.returns
  have hts := atoms_spec (ws := wsX12_monthOf) B.pre
  have hown : s.vm.findClass RX12 = some m.cls := findClass_of_methodNamed B.named
  have hlocks := B.notSynchronized
  subst hsz
  have hD := hD0.self (sz := s.heap.size)
  have hK := hkn.1
  have hAO := hkn.2.2.1
  generalize hAe : va_A [] s.heap.size = A at hD hst ⊢
  have hA : ∀ q : Nat, s.heap.size ≤ q → A q := fun q h => by rw [← hAe]; exact Or.inr h
  have hS : va_S A s.heap s.heap [] := va_S.rf
  have hP : va_P E.1 vwCl [] s.heap := hP
  have hl := lv_entry ([.int (nI d_)]) (n := 1) (Nat.le_of_ble_eq_true rfl)
  rw [lg_entry_eq]
  generalize (lg_sl ([.int (nI d_)]) ++ List.replicate (1 - (lg_sl ([.int (nI d_)])).length) Slot.unset).toArray = ls at hl ⊢
  have hl : lv_has ls 1 [(0, .int (nI d_))] := hl
  refine lv_iload_n hx hb dX12_monthOf_0 rfl (lv_at hl 0 rfl) ?_
  refine lv_sipush (v := 360) hx hb dX12_monthOf_1 (by decide) ?_
  refine lv_irem hx hb dX12_monthOf_4 (by decide) ?_
  refine lv_topi (fun x_1 ex_1 => ?_)
  obtain rfl : x_1 = nI (d_ % 360) := ex_1.trans (pk_rem (a := d_) (d := 360) (by omega) (by decide) (by decide))
  refine lv_bipush (v := 30) hx hb dX12_monthOf_5 (by decide) ?_
  refine lv_idiv hx hb dX12_monthOf_7 (by decide) ?_
  refine lv_topi (fun x_2 ex_2 => ?_)
  obtain rfl : x_2 = nI ((d_ % 360) / 30) := ex_2.trans (pk_div (a := (d_ % 360)) (d := 30) (by omega) (by decide) (by decide))
  have hP9 := hP.sub (ws' := []) [] rfl
  have hD9 := hD.sub (ws' := []) [] (by decide) rfl
  exact W.iret (v := (nI ((d_ % 360) / 30))) hx hb hr (fun t ht hW => ⟨⟨(nI ((d_ % 360) / 30)), (), rfl, (inR_mk (n := 11) (by decide) (by omega)), by rw [ht]; exact hP9, hD9⟩, hS.F ht⟩) hS.2.2 dX12_monthOf_8
set_option maxHeartbeats 4000000 in
set_option maxRecDepth 100000 in
theorem c_X12_weather (l : Launch) (E : vE) (h0 : Nat) (q : Nat → Nat) (i_taped : Int32) (i_size : Int32) (i_sort : Int32) (i_what : Int32) (i_at : Int32) (i_end : Int32) (i_worth : Int32) (i_faultKind : Int32) (i_faultPlace : Int32) (i_got : Int32) (i_worked : Int32) (i_deliveries : Int32) (i_isPlanned : Int32) (i_bestDone : Int32) (i_bestCost : Int32) (p_ : Nat) (d_ : Nat) (sz : Nat) (hp1 : p_ < 3000) (hp2 : p_ % 100 < 20) (hd1 : d_ < 2 ^ 31) : Met l yX12_weather wsX12_weather ({ frames := 1, cells := 0, slots := 0, locals := 20 }) (pcW E [.ref h0, .int (nI p_), .int (nI d_)] sz [(h0, .inr (12, mG q i_taped i_size i_sort i_what i_at i_end i_worth i_faultKind i_faultPlace i_got i_worked i_deliveries i_isPlanned i_bestDone i_bestCost))]) (va_Qi (fun (r : Int32) (_ : Unit) => inR r 0 287 = true) (fun (_ : Unit) (t : State) => wB E (va_A [(h0, .inr (12, mG q i_taped i_size i_sort i_what i_at i_end i_worth i_faultKind i_faultPlace i_got i_worked i_deliveries i_isPlanned i_bestDone i_bestCost))] sz) [(h0, .inr (12, mG q i_taped i_size i_sort i_what i_at i_end i_worth i_faultKind i_faultPlace i_got i_worked i_deliveries i_isPlanned i_bestDone i_bestCost))] t) (va_A [(h0, .inr (12, mG q i_taped i_size i_sort i_what i_at i_end i_worth i_faultKind i_faultPlace i_got i_worked i_deliveries i_isPlanned i_bestDone i_bestCost))] sz)) 0 0 (va_A [(h0, .inr (12, mG q i_taped i_size i_sort i_what i_at i_end i_worth i_faultKind i_faultPlace i_got i_worked i_deliveries i_isPlanned i_bestDone i_bestCost))] sz) := by
  refine Met.ofW (cc := cX12_weather) (maxL := 3) (ret := (some .int)) (by decide) rfl ?_
  intro p e s m args below meth c s₁ B hml hv
  obtain ⟨rfl, hsz, hP, hkn, hD0, hst⟩ := hv
  have hx := B.exec
  have hb := B.bytes
  have hr := B.returns
  have hts := atoms_spec (ws := wsX12_weather) B.pre
  have hown : s.vm.findClass RX12 = some m.cls := findClass_of_methodNamed B.named
  have hlocks := B.notSynchronized
  subst hsz
  have hD := hD0.self (sz := s.heap.size)
  have hK := hkn.1
  have hAO := hkn.2.2.1
  generalize hAe : va_A [(h0, .inr (12, mG q i_taped i_size i_sort i_what i_at i_end i_worth i_faultKind i_faultPlace i_got i_worked i_deliveries i_isPlanned i_bestDone i_bestCost))] s.heap.size = A at hD hst ⊢
  have hA : ∀ q : Nat, s.heap.size ≤ q → A q := fun q h => by rw [← hAe]; exact Or.inr h
  have hS : va_S A s.heap s.heap [] := va_S.rf
  have hP : va_P E.1 vwCl [(h0, .inr (12, mG q i_taped i_size i_sort i_what i_at i_end i_worth i_faultKind i_faultPlace i_got i_worked i_deliveries i_isPlanned i_bestDone i_bestCost))] s.heap := hP
  have hl := lv_entry ([.ref h0, .int (nI p_), .int (nI d_)]) (n := 3) (Nat.le_of_ble_eq_true rfl)
  rw [lg_entry_eq]
  generalize (lg_sl ([.ref h0, .int (nI p_), .int (nI d_)]) ++ List.replicate (3 - (lg_sl ([.ref h0, .int (nI p_), .int (nI d_)])).length) Slot.unset).toArray = ls at hl ⊢
  have hl : lv_has ls 3 [(0, .ref h0), (1, .int (nI p_)), (2, .int (nI d_))] := hl
  refine lv_bipush (v := 12) hx hb dX12_weather_0 (by decide) ?_
  refine lv_iload_n hx hb dX12_weather_2 rfl (lv_at hl 1 rfl) ?_
  have hPc := hP.sub (ws' := []) [] rfl
  have hDc := hD.sub (ws' := []) [] (by decide) rfl
  have hFc := va_free (wc := []) hD hS hA [] rfl
  refine va_calli (va_runS (As := [.int (nI p_)]) (rest := [.int 12]) ⟨hx, hb, hml, hown, hts⟩ (c_X12_zoneOf l E p_ s.heap.size (by omega) (by omega)) (va_cwS 1 hts gX12_weather_X12_zoneOf rfl rfl rfl hdS_X12_zoneOf ⟨Nat.le_of_ble_eq_true rfl, Nat.le_of_ble_eq_true rfl⟩) ⟨pcW_blind, (pcW_pre hPc hkn hDc hst hS hFc)⟩ rfl rfl hl.1 rfl (lv_room (Nat.le_of_ble_eq_true rfl)) dX12_weather_3 ⟨Nat.le_of_ble_eq_true rfl, Nat.le_of_ble_eq_true rfl⟩) hS (fun q _ h => hFc q h) hFc (fun r_1 u t H1 locs ht hvm hw_2 hB hz1 hk1 hS => ?_)
  obtain ⟨hP1, hD1⟩ := hB
  rw [ht] at hP1
  try dsimp only at hw_2
  obtain ⟨hP, hD⟩ := va_join (wr := [(h0, .inr (12, mG q i_taped i_size i_sort i_what i_at i_end i_worth i_faultKind i_faultPlace i_got i_worked i_deliveries i_isPlanned i_bestDone i_bestCost))]) (w1 := []) hP hD [] [0] rfl rfl (by decide) (by decide) hk1 hFc hP1 hD1
  generalize H1 = H at hP hS ⊢
  have hP : va_P E.1 vwCl [(h0, .inr (12, mG q i_taped i_size i_sort i_what i_at i_end i_worth i_faultKind i_faultPlace i_got i_worked i_deliveries i_isPlanned i_bestDone i_bestCost))] H := hP
  have hD : va_D A [(h0, .inr (12, mG q i_taped i_size i_sort i_what i_at i_end i_worth i_faultKind i_faultPlace i_got i_worked i_deliveries i_isPlanned i_bestDone i_bestCost))] := hD
  obtain ⟨w_3, hw_4, ew_5⟩ := inR_nI (n := 23) (by decide) hw_2
  subst ew_5
  refine lv_imul hx hb dX12_weather_6 ?_
  refine lv_topi (fun x_6 ex_6 => ?_)
  obtain rfl : x_6 = nI (12 * w_3) := ex_6.trans (pk_mul 12 w_3)
  refine lv_iload_n hx hb dX12_weather_7 rfl (lv_at hl 2 rfl) ?_
  have hPc := hP.sub (ws' := []) [] rfl
  have hDc := hD.sub (ws' := []) [] (by decide) rfl
  have hFc := va_free (wc := []) hD hS hA [] rfl
  refine va_calli (va_runS (As := [.int (nI d_)]) (rest := [.int (nI (12 * w_3))]) ⟨hx, hb, hml, hown, hts⟩ (c_X12_monthOf l E d_ H.size (by omega)) (va_cwS 1 hts gX12_weather_X12_monthOf rfl rfl rfl hdS_X12_monthOf ⟨Nat.le_of_ble_eq_true rfl, Nat.le_of_ble_eq_true rfl⟩) ⟨pcW_blind, (pcW_pre hPc hkn hDc hst hS hFc)⟩ rfl rfl hl.1 rfl (lv_room (Nat.le_of_ble_eq_true rfl)) dX12_weather_8 ⟨Nat.le_of_ble_eq_true rfl, Nat.le_of_ble_eq_true rfl⟩) hS (fun q _ h => hFc q h) hFc (fun r_7 u t H1 locs ht hvm hw_8 hB hz1 hk1 hS => ?_)
  obtain ⟨hP1, hD1⟩ := hB
  rw [ht] at hP1
  try dsimp only at hw_8
  obtain ⟨hP, hD⟩ := va_join (wr := [(h0, .inr (12, mG q i_taped i_size i_sort i_what i_at i_end i_worth i_faultKind i_faultPlace i_got i_worked i_deliveries i_isPlanned i_bestDone i_bestCost))]) (w1 := []) hP hD [] [0] rfl rfl (by decide) (by decide) hk1 hFc hP1 hD1
  generalize H1 = H at hP hS ⊢
  have hP : va_P E.1 vwCl [(h0, .inr (12, mG q i_taped i_size i_sort i_what i_at i_end i_worth i_faultKind i_faultPlace i_got i_worked i_deliveries i_isPlanned i_bestDone i_bestCost))] H := hP
  have hD : va_D A [(h0, .inr (12, mG q i_taped i_size i_sort i_what i_at i_end i_worth i_faultKind i_faultPlace i_got i_worked i_deliveries i_isPlanned i_bestDone i_bestCost))] := hD
  obtain ⟨w_9, hw_10, ew_11⟩ := inR_nI (n := 11) (by decide) hw_8
  subst ew_11
  refine lv_iadd hx hb dX12_weather_11 ?_
  refine lv_topi (fun x_12 ex_12 => ?_)
  obtain rfl : x_12 = nI ((12 * w_3) + w_9) := ex_12.trans (nI_add (12 * w_3) w_9)
  have hP9 := hP.sub (ws' := [(h0, .inr (12, mG q i_taped i_size i_sort i_what i_at i_end i_worth i_faultKind i_faultPlace i_got i_worked i_deliveries i_isPlanned i_bestDone i_bestCost))]) [0] rfl
  have hD9 := hD.sub (ws' := [(h0, .inr (12, mG q i_taped i_size i_sort i_what i_at i_end i_worth i_faultKind i_faultPlace i_got i_worked i_deliveries i_isPlanned i_bestDone i_bestCost))]) [0] (by decide) rfl
  exact W.iret (v := (nI ((12 * w_3) + w_9))) hx hb hr (fun t ht hW => ⟨⟨(nI ((12 * w_3) + w_9)), (), rfl, (inR_mk (n := 287) (by decide) (by omega)), by rw [ht]; exact hP9, hD9⟩, hS.F ht⟩) hS.2.2 dX12_weather_12
set_option maxHeartbeats 4000000 in
set_option maxRecDepth 100000 in
theorem c_X12_sign (l : Launch) (E : vE) (x : Int32) (sz : Nat) : Met l yX12_sign wsX12_sign ({ frames := 0, cells := 0, slots := 0, locals := 0 }) (pcW E [.int x] sz []) (va_Qi (fun (r : Int32) (_ : Unit) => sgn3 x r) (fun (_ : Unit) (t : State) => wB E (va_A [] sz) [] t) (va_A [] sz)) 0 0 (va_A [] sz) := by
  refine Met.ofW (cc := cX12_sign) (maxL := 1) (ret := (some .int)) (by decide) rfl ?_
  intro p e s m args below meth c s₁ B hml hv
  obtain ⟨rfl, hsz, hP, hkn, hD0, hst⟩ := hv
  have hx := B.exec
  have hb := B.bytes
  have hr := B.returns
  have hts := atoms_spec (ws := wsX12_sign) B.pre
  have hown : s.vm.findClass RX12 = some m.cls := findClass_of_methodNamed B.named
  have hlocks := B.notSynchronized
  subst hsz
  have hD := hD0.self (sz := s.heap.size)
  have hK := hkn.1
  have hAO := hkn.2.2.1
  generalize hAe : va_A [] s.heap.size = A at hD hst ⊢
  have hA : ∀ q : Nat, s.heap.size ≤ q → A q := fun q h => by rw [← hAe]; exact Or.inr h
  have hS : va_S A s.heap s.heap [] := va_S.rf
  have hP : va_P E.1 vwCl [] s.heap := hP
  have hl := lv_entry ([.int x]) (n := 1) (Nat.le_of_ble_eq_true rfl)
  rw [lg_entry_eq]
  generalize (lg_sl ([.int x]) ++ List.replicate (1 - (lg_sl ([.int x])).length) Slot.unset).toArray = ls at hl ⊢
  have hl : lv_has ls 1 [(0, .int x)] := hl
  refine lv_iload_n hx hb dX12_sign_0 rfl (lv_at hl 0 rfl) ?_
  refine lv_if_le (tgt := 8) hx hb dX12_sign_1 (by decide) (fun c_1 => ?_) (fun c_1 => ?_)
  · refine lv_iload_n hx hb dX12_sign_8 rfl (lv_at hl 0 rfl) ?_
    refine lv_if_ge (tgt := 16) hx hb dX12_sign_9 (by decide) (fun c_2 => ?_) (fun c_2 => ?_)
    · refine lv_iconst (v := 0) hx hb dX12_sign_16 (by decide) ?_
      have hP9 := hP.sub (ws' := []) [] rfl
      have hD9 := hD.sub (ws' := []) [] (by decide) rfl
      exact W.iret (v := 0) hx hb hr (fun t ht hW => ⟨⟨0, (), rfl, Or.inr (Or.inr rfl), by rw [ht]; exact hP9, hD9⟩, hS.F ht⟩) hS.2.2 dX12_sign_17
    · refine lv_iconst (v := (-1)) hx hb dX12_sign_12 (by decide) ?_
      refine lv_goto (tgt := 17) hx hb dX12_sign_13 (by decide) ?_
      have hP9 := hP.sub (ws' := []) [] rfl
      have hD9 := hD.sub (ws' := []) [] (by decide) rfl
      exact W.iret (v := (-1)) hx hb hr (fun t ht hW => ⟨⟨(-1), (), rfl, Or.inr (Or.inl ⟨rfl, Int32.not_le.mp c_2⟩), by rw [ht]; exact hP9, hD9⟩, hS.F ht⟩) hS.2.2 dX12_sign_17
  · refine lv_iconst (v := 1) hx hb dX12_sign_4 (by decide) ?_
    refine lv_goto (tgt := 17) hx hb dX12_sign_5 (by decide) ?_
    have hP9 := hP.sub (ws' := []) [] rfl
    have hD9 := hD.sub (ws' := []) [] (by decide) rfl
    exact W.iret (v := 1) hx hb hr (fun t ht hW => ⟨⟨1, (), rfl, Or.inl ⟨rfl, Int32.not_le.mp c_1⟩, by rw [ht]; exact hP9, hD9⟩, hS.F ht⟩) hS.2.2 dX12_sign_17
set_option maxHeartbeats 4000000 in
set_option maxRecDepth 100000 in
theorem lm_cover {p : Program} {l : Launch} {e : Env} {s : State} {m : MethodId} {args : Array Value} {below : List Frame} {meth : Method} {c : Code} {Q : State → Prop} {A : Nat → Prop} (E : vE) (h0 : Nat) (q : Nat → Nat) (i_taped : Int32) (i_size : Int32) (i_sort : Int32) (i_what : Int32) (i_at : Int32) (i_end : Int32) (i_worth : Int32) (i_faultKind : Int32) (i_faultPlace : Int32) (i_got : Int32) (i_worked : Int32) (i_deliveries : Int32) (i_isPlanned : Int32) (i_bestDone : Int32) (i_bestCost : Int32) (b : Nat) (pl_ : Int32) (dt : Int32) (a_boxes : Nat → Int32) (a_boxMany : Nat → Int32) (a_minCrew : Nat → Int32) (a_maxForce : Nat → Int32) (hx : p.tables.exec = Jvm.exec) (hb : c.code = cX12_isCovered) (hml : c.maxLocals = 13) (hown : s.vm.findClass RX12 = some m.cls) (hts : ∀ w ∈ wsX12_isCovered, w.before args s = true) (hkn : kn E s) (hst : st E A s s.heap) (hA : ∀ q : Nat, s.heap.size ≤ q → A q) (hb6 : b < 6) (hI_boxMany : ∀ k : Nat, k < 7 → inR (a_boxMany k) 0 12 = true) (kk : ∀ (H : Heap) (locs : List Loc) (ls : Array Slot), va_P E.1 vwCl [(h0, .inr (12, mG q i_taped i_size i_sort i_what i_at i_end i_worth i_faultKind i_faultPlace i_got i_worked i_deliveries i_isPlanned i_bestDone i_bestCost)), (q 12, .inl (E.2.1 0, 504, .inl a_boxes)), (q 13, .inl (E.2.1 0, 7, .inl a_boxMany)), (q 14, .inl (E.2.1 0, 7, .inl a_minCrew)), (q 15, .inl (E.2.1 0, 7, .inl a_maxForce))] H → va_D A [(h0, .inr (12, mG q i_taped i_size i_sort i_what i_at i_end i_worth i_faultKind i_faultPlace i_got i_worked i_deliveries i_isPlanned i_bestDone i_bestCost)), (q 12, .inl (E.2.1 0, 504, .inl a_boxes)), (q 13, .inl (E.2.1 0, 7, .inl a_boxMany)), (q 14, .inl (E.2.1 0, 7, .inl a_minCrew)), (q 15, .inl (E.2.1 0, 7, .inl a_maxForce))] → va_S A s.heap H locs → lv_has ls 13 [(0, .ref h0)] → W p l e ({ frames := 2, cells := 0, slots := 0, locals := 44 }) s m args below meth c H locs 0 0 Q (F0 m 193 ls [])) (kk2 : ∀ (H : Heap) (locs : List Loc) (ls : Array Slot), va_P E.1 vwCl [(h0, .inr (12, mG q i_taped i_size i_sort i_what i_at i_end i_worth i_faultKind i_faultPlace i_got i_worked i_deliveries i_isPlanned i_bestDone i_bestCost)), (q 12, .inl (E.2.1 0, 504, .inl a_boxes)), (q 13, .inl (E.2.1 0, 7, .inl a_boxMany)), (q 14, .inl (E.2.1 0, 7, .inl a_minCrew)), (q 15, .inl (E.2.1 0, 7, .inl a_maxForce))] H → va_D A [(h0, .inr (12, mG q i_taped i_size i_sort i_what i_at i_end i_worth i_faultKind i_faultPlace i_got i_worked i_deliveries i_isPlanned i_bestDone i_bestCost)), (q 12, .inl (E.2.1 0, 504, .inl a_boxes)), (q 13, .inl (E.2.1 0, 7, .inl a_boxMany)), (q 14, .inl (E.2.1 0, 7, .inl a_minCrew)), (q 15, .inl (E.2.1 0, 7, .inl a_maxForce))] → va_S A s.heap H locs → lv_has ls 13 [(0, .ref h0)] → W p l e ({ frames := 2, cells := 0, slots := 0, locals := 44 }) s m args below meth c H locs 0 0 Q (F0 m 185 ls [])) : ∀ (n0 : Nat) (kv : Nat) (H : Heap) (locs : List Loc) (ls : Array Slot), 440 - kv < n0 → (kv ≤ 437) → va_P E.1 vwCl [(h0, .inr (12, mG q i_taped i_size i_sort i_what i_at i_end i_worth i_faultKind i_faultPlace i_got i_worked i_deliveries i_isPlanned i_bestDone i_bestCost)), (q 12, .inl (E.2.1 0, 504, .inl a_boxes)), (q 13, .inl (E.2.1 0, 7, .inl a_boxMany)), (q 14, .inl (E.2.1 0, 7, .inl a_minCrew)), (q 15, .inl (E.2.1 0, 7, .inl a_maxForce))] H → va_D A [(h0, .inr (12, mG q i_taped i_size i_sort i_what i_at i_end i_worth i_faultKind i_faultPlace i_got i_worked i_deliveries i_isPlanned i_bestDone i_bestCost)), (q 12, .inl (E.2.1 0, 504, .inl a_boxes)), (q 13, .inl (E.2.1 0, 7, .inl a_boxMany)), (q 14, .inl (E.2.1 0, 7, .inl a_minCrew)), (q 15, .inl (E.2.1 0, 7, .inl a_maxForce))] → va_S A s.heap H locs → lv_has ls 13 [(0, .ref h0), (1, .int (nI b)), (2, .int pl_), (6, .int dt), (7, .int (nI kv))] → W p l e ({ frames := 2, cells := 0, slots := 0, locals := 44 }) s m args below meth c H locs 0 0 Q (F0 m 37 ls []) := by
  have hK := hkn.1
  have hAO := hkn.2.2.1
  have fl24 := hts (.fieldLink RX12 24 "BoatsHomeModel" "boxes" "[I") (by first | exact List.mem_of_getElem? (i := 4) rfl | decide +kernel)
  have fl27 := hts (.fieldLink RX12 27 "BoatsHomeModel" "boxMany" "[I") (by first | exact List.mem_of_getElem? (i := 3) rfl | decide +kernel)
  have fl30 := hts (.fieldLink RX12 30 "BoatsHomeModel" "minCrew" "[I") (by first | exact List.mem_of_getElem? (i := 1) rfl | decide +kernel)
  have fl33 := hts (.fieldLink RX12 33 "BoatsHomeModel" "maxForce" "[I") (by first | exact List.mem_of_getElem? (i := 2) rfl | decide +kernel)
  have inX12 : ∀ w ∈ u_ws RX12 TX12 59, w ∈ wsX12_isCovered := by first | exact fun w h9 => (List.mem_cons_of_mem _ (List.mem_append_right _ h9)) | decide +kernel
  intro n0
  induction n0 with
  | zero =>
    intro kv H locs ls hn0
    exact absurd hn0 (Nat.not_lt_zero _)
  | succ n0 ih =>
    intro kv H locs ls hn0 hkv hP hD hS hl
    refine lv_iload hx hb dX12_isCovered_37 (lv_at hl 4 rfl) ?_
    refine lv_bipush (v := 6) hx hb dX12_isCovered_39 (by decide) ?_
    refine lv_bipush (v := 12) hx hb dX12_isCovered_41 (by decide) ?_
    refine lv_iload_n hx hb dX12_isCovered_43 rfl (lv_at hl 1 rfl) ?_
    refine lv_imul hx hb dX12_isCovered_44 ?_
    refine lv_topi (fun x_1 ex_1 => ?_)
    obtain rfl : x_1 = nI (12 * b) := ex_1.trans (pk_mul 12 b)
    refine lv_aload_n hx hb dX12_isCovered_45 rfl (lv_at hl 0 rfl) ?_
    refine va_get (D := E.1) (ci := 12) (v := .ref (q 13)) (C := RX12) (T := TX12) (N := 59) hx hb hts inX12 hown hK hP 0 rfl rfl 13 (by decide) fl27 (fun _ h9 => h9) rfl dX12_isCovered_46 ?_
    refine lv_iload_n hx hb dX12_isCovered_49 rfl (lv_at hl 1 rfl) ?_
    have hi_2 : vp_in (nI b) 7 := vp_in_nI (by omega) (by decide)
    refine va_iald hx hb hK hP 2 0 rfl rfl hi_2 dX12_isCovered_50 ?_
    refine lv_topi (fun x_3 ex_3 => ?_)
    have hv_4 : inR x_3 0 12 = true := by rw [ex_3]; exact hI_boxMany _ (vin_cl hi_2)
    obtain ⟨w_5, hw_6, ew_7⟩ := inR_nI (n := 12) (by decide) hv_4
    subst ew_7
    refine lv_iadd hx hb dX12_isCovered_51 ?_
    refine lv_topi (fun x_8 ex_8 => ?_)
    obtain rfl : x_8 = nI ((12 * b) + w_5) := ex_8.trans (nI_add (12 * b) w_5)
    refine lv_imul hx hb dX12_isCovered_52 ?_
    refine lv_topi (fun x_9 ex_9 => ?_)
    obtain rfl : x_9 = nI (6 * ((12 * b) + w_5)) := ex_9.trans (pk_mul 6 ((12 * b) + w_5))
    refine lv_icmp_ge (tgt := 193) hx hb dX12_isCovered_53 (by decide) (fun c_10 => ?_) (fun c_10 => ?_)
    · exact kk  _ _ _  (hP.sub [0, 1, 2, 3, 4] rfl) (hD.sub [0, 1, 2, 3, 4] (by decide) rfl) hS (lv_sub hl [0] rfl)
    · have hlt : kv < 432 := by have := lt_of_nle (by omega) c_10; omega
      refine lv_iload_n hx hb dX12_isCovered_56 rfl (lv_at hl 2 rfl) ?_
      refine lv_bipush (v := 100) hx hb dX12_isCovered_57 (by decide) ?_
      refine lv_idiv hx hb dX12_isCovered_59 (by decide) ?_
      refine lv_topi (fun x_11 ex_11 => ?_)
      refine lv_aload_n hx hb dX12_isCovered_60 rfl (lv_at hl 0 rfl) ?_
      refine va_get (D := E.1) (ci := 12) (v := .ref (q 12)) (C := RX12) (T := TX12) (N := 59) hx hb hts inX12 hown hK hP 0 rfl rfl 12 (by decide) fl24 (fun _ h9 => h9) rfl dX12_isCovered_61 ?_
      refine lv_iload hx hb dX12_isCovered_64 (lv_at hl 4 rfl) ?_
      have hi_12 : vp_in (nI kv) 504 := vp_in_nI (by omega) (by decide)
      refine va_iald hx hb hK hP 1 0 rfl rfl hi_12 dX12_isCovered_66 ?_
      refine lv_topi (fun x_13 ex_13 => ?_)
      refine lv_aload_n hx hb dX12_isCovered_67 rfl (lv_at hl 0 rfl) ?_
      refine va_get (D := E.1) (ci := 12) (v := .ref (q 12)) (C := RX12) (T := TX12) (N := 59) hx hb hts inX12 hown hK hP 0 rfl rfl 12 (by decide) fl24 (fun _ h9 => h9) rfl dX12_isCovered_68 ?_
      refine lv_iload hx hb dX12_isCovered_71 (lv_at hl 4 rfl) ?_
      refine lv_iconst (v := 2) hx hb dX12_isCovered_73 (by decide) ?_
      refine lv_iadd hx hb dX12_isCovered_74 ?_
      refine lv_topi (fun x_14 ex_14 => ?_)
      obtain rfl : x_14 = nI (kv + 2) := ex_14.trans (nI_add kv 2)
      have hi_15 : vp_in (nI (kv + 2)) 504 := vp_in_nI (by omega) (by decide)
      refine va_iald hx hb hK hP 1 0 rfl rfl hi_15 dX12_isCovered_75 ?_
      refine lv_topi (fun x_16 ex_16 => ?_)
      have hPc := hP.sub (ws' := []) [] rfl
      have hDc := hD.sub (ws' := []) [] (by decide) rfl
      have hFc := va_free (wc := []) hD hS hA [] rfl
      refine va_calli (va_runS (As := [.int x_11, .int x_13, .int x_16]) (rest := []) ⟨hx, hb, hml, hown, hts⟩ (c_X12_between l E x_11 x_13 x_16 H.size ) (va_cwS 3 hts gX12_isCovered_X12_between rfl rfl rfl hdS_X12_between ⟨Nat.le_of_ble_eq_true rfl, Nat.le_of_ble_eq_true rfl⟩) ⟨pcW_blind, (pcW_pre hPc hkn hDc hst hS hFc)⟩ rfl rfl hl.1 rfl (lv_room (Nat.le_of_ble_eq_true rfl)) dX12_isCovered_76 ⟨Nat.le_of_ble_eq_true rfl, Nat.le_of_ble_eq_true rfl⟩) hS (fun q _ h => hFc q h) hFc (fun r_17 u t H1 locs ht hvm hw_18 hB hz1 hk1 hS => ?_)
      obtain ⟨hP1, hD1⟩ := hB
      rw [ht] at hP1
      try dsimp only at hw_18
      obtain ⟨hP, hD⟩ := va_join (wr := [(h0, .inr (12, mG q i_taped i_size i_sort i_what i_at i_end i_worth i_faultKind i_faultPlace i_got i_worked i_deliveries i_isPlanned i_bestDone i_bestCost)), (q 12, .inl (E.2.1 0, 504, .inl a_boxes)), (q 13, .inl (E.2.1 0, 7, .inl a_boxMany)), (q 14, .inl (E.2.1 0, 7, .inl a_minCrew)), (q 15, .inl (E.2.1 0, 7, .inl a_maxForce))]) (w1 := []) hP hD [] [0, 1, 2, 3, 4] rfl rfl (by decide) (by decide) hk1 hFc hP1 hD1
      generalize H1 = H at hP hS ⊢
      have hP : va_P E.1 vwCl [(h0, .inr (12, mG q i_taped i_size i_sort i_what i_at i_end i_worth i_faultKind i_faultPlace i_got i_worked i_deliveries i_isPlanned i_bestDone i_bestCost)), (q 12, .inl (E.2.1 0, 504, .inl a_boxes)), (q 13, .inl (E.2.1 0, 7, .inl a_boxMany)), (q 14, .inl (E.2.1 0, 7, .inl a_minCrew)), (q 15, .inl (E.2.1 0, 7, .inl a_maxForce))] H := hP
      have hD : va_D A [(h0, .inr (12, mG q i_taped i_size i_sort i_what i_at i_end i_worth i_faultKind i_faultPlace i_got i_worked i_deliveries i_isPlanned i_bestDone i_bestCost)), (q 12, .inl (E.2.1 0, 504, .inl a_boxes)), (q 13, .inl (E.2.1 0, 7, .inl a_boxMany)), (q 14, .inl (E.2.1 0, 7, .inl a_minCrew)), (q 15, .inl (E.2.1 0, 7, .inl a_maxForce))] := hD
      refine lv_istore (lv' := [(8, .int r_17), (0, .ref h0), (1, .int (nI b)), (2, .int pl_), (6, .int dt), (7, .int (nI kv))]) hx hb dX12_isCovered_79 hl (by decide) rfl (fun ls hl => ?_)
      refine lv_iload_n hx hb dX12_isCovered_81 rfl (lv_at hl 3 rfl) ?_
      refine lv_bipush (v := 100) hx hb dX12_isCovered_82 (by decide) ?_
      refine lv_irem hx hb dX12_isCovered_84 (by decide) ?_
      refine lv_topi (fun x_19 ex_19 => ?_)
      refine lv_aload_n hx hb dX12_isCovered_85 rfl (lv_at hl 1 rfl) ?_
      refine va_get (D := E.1) (ci := 12) (v := .ref (q 12)) (C := RX12) (T := TX12) (N := 59) hx hb hts inX12 hown hK hP 0 rfl rfl 12 (by decide) fl24 (fun _ h9 => h9) rfl dX12_isCovered_86 ?_
      refine lv_iload hx hb dX12_isCovered_89 (lv_at hl 5 rfl) ?_
      refine lv_iconst (v := 1) hx hb dX12_isCovered_91 (by decide) ?_
      refine lv_iadd hx hb dX12_isCovered_92 ?_
      refine lv_topi (fun x_20 ex_20 => ?_)
      obtain rfl : x_20 = nI (kv + 1) := ex_20.trans (nI_1 _)
      have hi_21 : vp_in (nI (kv + 1)) 504 := vp_in_nI (by omega) (by decide)
      refine va_iald hx hb hK hP 1 0 rfl rfl hi_21 dX12_isCovered_93 ?_
      refine lv_topi (fun x_22 ex_22 => ?_)
      refine lv_aload_n hx hb dX12_isCovered_94 rfl (lv_at hl 1 rfl) ?_
      refine va_get (D := E.1) (ci := 12) (v := .ref (q 12)) (C := RX12) (T := TX12) (N := 59) hx hb hts inX12 hown hK hP 0 rfl rfl 12 (by decide) fl24 (fun _ h9 => h9) rfl dX12_isCovered_95 ?_
      refine lv_iload hx hb dX12_isCovered_98 (lv_at hl 5 rfl) ?_
      refine lv_iconst (v := 3) hx hb dX12_isCovered_100 (by decide) ?_
      refine lv_iadd hx hb dX12_isCovered_101 ?_
      refine lv_topi (fun x_23 ex_23 => ?_)
      obtain rfl : x_23 = nI (kv + 3) := ex_23.trans (nI_add kv 3)
      have hi_24 : vp_in (nI (kv + 3)) 504 := vp_in_nI (by omega) (by decide)
      refine va_iald hx hb hK hP 1 0 rfl rfl hi_24 dX12_isCovered_102 ?_
      refine lv_topi (fun x_25 ex_25 => ?_)
      have hPc := hP.sub (ws' := []) [] rfl
      have hDc := hD.sub (ws' := []) [] (by decide) rfl
      have hFc := va_free (wc := []) hD hS hA [] rfl
      refine va_calli (va_runS (As := [.int x_19, .int x_22, .int x_25]) (rest := []) ⟨hx, hb, hml, hown, hts⟩ (c_X12_between l E x_19 x_22 x_25 H.size ) (va_cwS 3 hts gX12_isCovered_X12_between rfl rfl rfl hdS_X12_between ⟨Nat.le_of_ble_eq_true rfl, Nat.le_of_ble_eq_true rfl⟩) ⟨pcW_blind, (pcW_pre hPc hkn hDc hst hS hFc)⟩ rfl rfl hl.1 rfl (lv_room (Nat.le_of_ble_eq_true rfl)) dX12_isCovered_103 ⟨Nat.le_of_ble_eq_true rfl, Nat.le_of_ble_eq_true rfl⟩) hS (fun q _ h => hFc q h) hFc (fun r_26 u t H1 locs ht hvm hw_27 hB hz1 hk1 hS => ?_)
      obtain ⟨hP1, hD1⟩ := hB
      rw [ht] at hP1
      try dsimp only at hw_27
      obtain ⟨hP, hD⟩ := va_join (wr := [(h0, .inr (12, mG q i_taped i_size i_sort i_what i_at i_end i_worth i_faultKind i_faultPlace i_got i_worked i_deliveries i_isPlanned i_bestDone i_bestCost)), (q 12, .inl (E.2.1 0, 504, .inl a_boxes)), (q 13, .inl (E.2.1 0, 7, .inl a_boxMany)), (q 14, .inl (E.2.1 0, 7, .inl a_minCrew)), (q 15, .inl (E.2.1 0, 7, .inl a_maxForce))]) (w1 := []) hP hD [] [0, 1, 2, 3, 4] rfl rfl (by decide) (by decide) hk1 hFc hP1 hD1
      generalize H1 = H at hP hS ⊢
      have hP : va_P E.1 vwCl [(h0, .inr (12, mG q i_taped i_size i_sort i_what i_at i_end i_worth i_faultKind i_faultPlace i_got i_worked i_deliveries i_isPlanned i_bestDone i_bestCost)), (q 12, .inl (E.2.1 0, 504, .inl a_boxes)), (q 13, .inl (E.2.1 0, 7, .inl a_boxMany)), (q 14, .inl (E.2.1 0, 7, .inl a_minCrew)), (q 15, .inl (E.2.1 0, 7, .inl a_maxForce))] H := hP
      have hD : va_D A [(h0, .inr (12, mG q i_taped i_size i_sort i_what i_at i_end i_worth i_faultKind i_faultPlace i_got i_worked i_deliveries i_isPlanned i_bestDone i_bestCost)), (q 12, .inl (E.2.1 0, 504, .inl a_boxes)), (q 13, .inl (E.2.1 0, 7, .inl a_boxMany)), (q 14, .inl (E.2.1 0, 7, .inl a_minCrew)), (q 15, .inl (E.2.1 0, 7, .inl a_maxForce))] := hD
      refine lv_istore (lv' := [(9, .int r_26), (8, .int r_17), (0, .ref h0), (1, .int (nI b)), (2, .int pl_), (6, .int dt), (7, .int (nI kv))]) hx hb dX12_isCovered_106 hl (by decide) rfl (fun ls hl => ?_)
      refine lv_aload_n hx hb dX12_isCovered_108 rfl (lv_at hl 2 rfl) ?_
      refine va_get (D := E.1) (ci := 12) (v := .ref (q 12)) (C := RX12) (T := TX12) (N := 59) hx hb hts inX12 hown hK hP 0 rfl rfl 12 (by decide) fl24 (fun _ h9 => h9) rfl dX12_isCovered_109 ?_
      refine lv_iload hx hb dX12_isCovered_112 (lv_at hl 6 rfl) ?_
      refine lv_iconst (v := 4) hx hb dX12_isCovered_114 (by decide) ?_
      refine lv_iadd hx hb dX12_isCovered_115 ?_
      refine lv_topi (fun x_28 ex_28 => ?_)
      obtain rfl : x_28 = nI (kv + 4) := ex_28.trans (nI_add kv 4)
      have hi_29 : vp_in (nI (kv + 4)) 504 := vp_in_nI (by omega) (by decide)
      refine va_iald hx hb hK hP 1 0 rfl rfl hi_29 dX12_isCovered_116 ?_
      refine lv_topi (fun x_30 ex_30 => ?_)
      refine lv_istore (lv' := [(10, .int x_30), (9, .int r_26), (8, .int r_17), (0, .ref h0), (1, .int (nI b)), (2, .int pl_), (6, .int dt), (7, .int (nI kv))]) hx hb dX12_isCovered_117 hl (by decide) rfl (fun ls hl => ?_)
      refine lv_aload_n hx hb dX12_isCovered_119 rfl (lv_at hl 3 rfl) ?_
      refine va_get (D := E.1) (ci := 12) (v := .ref (q 12)) (C := RX12) (T := TX12) (N := 59) hx hb hts inX12 hown hK hP 0 rfl rfl 12 (by decide) fl24 (fun _ h9 => h9) rfl dX12_isCovered_120 ?_
      refine lv_iload hx hb dX12_isCovered_123 (lv_at hl 7 rfl) ?_
      refine lv_iconst (v := 5) hx hb dX12_isCovered_125 (by decide) ?_
      refine lv_iadd hx hb dX12_isCovered_126 ?_
      refine lv_topi (fun x_31 ex_31 => ?_)
      obtain rfl : x_31 = nI (kv + 5) := ex_31.trans (nI_add kv 5)
      have hi_32 : vp_in (nI (kv + 5)) 504 := vp_in_nI (by omega) (by decide)
      refine va_iald hx hb hK hP 1 0 rfl rfl hi_32 dX12_isCovered_127 ?_
      refine lv_topi (fun x_33 ex_33 => ?_)
      refine lv_istore (lv' := [(11, .int x_33), (10, .int x_30), (9, .int r_26), (8, .int r_17), (0, .ref h0), (1, .int (nI b)), (2, .int pl_), (6, .int dt), (7, .int (nI kv))]) hx hb dX12_isCovered_128 hl (by decide) rfl (fun ls hl => ?_)
      refine lv_iload hx hb dX12_isCovered_130 (lv_at hl 1 rfl) ?_
      refine lv_iload hx hb dX12_isCovered_132 (lv_at hl 0 rfl) ?_
      refine lv_icmp_gt (tgt := 149) hx hb dX12_isCovered_134 (by decide) (fun c_34 => ?_) (fun c_34 => ?_)
      · refine lv_iload hx hb dX12_isCovered_149 (lv_at hl 7 rfl) ?_
        refine lv_iload hx hb dX12_isCovered_151 (lv_at hl 1 rfl) ?_
        refine lv_icmp_ge (tgt := 163) hx hb dX12_isCovered_153 (by decide) (fun c_35 => ?_) (fun c_35 => ?_)
        · refine lv_iconst (v := 1) hx hb dX12_isCovered_163 (by decide) ?_
          refine lv_goto (tgt := 168) hx hb dX12_isCovered_164 (by decide) ?_
          refine lv_istore (lv' := [(12, .int 1), (11, .int x_33), (10, .int x_30), (9, .int r_26), (8, .int r_17), (0, .ref h0), (1, .int (nI b)), (2, .int pl_), (6, .int dt), (7, .int (nI kv))]) hx hb dX12_isCovered_168 hl (by decide) rfl (fun ls hl => ?_)
          refine lv_iload hx hb dX12_isCovered_170 (lv_at hl 4 rfl) ?_
          refine lv_if_eq (tgt := 187) hx hb dX12_isCovered_172 (by decide) (fun c_36 => ?_) (fun c_36 => ?_)
          · refine lv_iinc (v := (nI (kv + 6))) (lv' := [(7, .int (nI (kv + 6))), (12, .int 1), (11, .int x_33), (10, .int x_30), (9, .int r_26), (8, .int r_17), (0, .ref h0), (1, .int (nI b)), (2, .int pl_), (6, .int dt)]) hx hb dX12_isCovered_187 hl (k := 9) rfl (show nI kv + 6 = nI (kv + 6) from nI_add kv 6) (by decide) rfl (fun ls hl => ?_)
            refine lv_goto (tgt := 37) hx hb dX12_isCovered_190 (by decide) ?_
            exact ih (kv + 6) _ _ _ (by omega) (by omega) (hP.sub [0, 1, 2, 3, 4] rfl) (hD.sub [0, 1, 2, 3, 4] (by decide) rfl) hS (lv_sub hl [6, 7, 8, 9, 0] rfl)
          · refine lv_iload hx hb dX12_isCovered_175 (lv_at hl 3 rfl) ?_
            refine lv_if_eq (tgt := 187) hx hb dX12_isCovered_177 (by decide) (fun c_37 => ?_) (fun c_37 => ?_)
            · refine lv_iinc (v := (nI (kv + 6))) (lv' := [(7, .int (nI (kv + 6))), (12, .int 1), (11, .int x_33), (10, .int x_30), (9, .int r_26), (8, .int r_17), (0, .ref h0), (1, .int (nI b)), (2, .int pl_), (6, .int dt)]) hx hb dX12_isCovered_187 hl (k := 9) rfl (show nI kv + 6 = nI (kv + 6) from nI_add kv 6) (by decide) rfl (fun ls hl => ?_)
              refine lv_goto (tgt := 37) hx hb dX12_isCovered_190 (by decide) ?_
              exact ih (kv + 6) _ _ _ (by omega) (by omega) (hP.sub [0, 1, 2, 3, 4] rfl) (hD.sub [0, 1, 2, 3, 4] (by decide) rfl) hS (lv_sub hl [6, 7, 8, 9, 0] rfl)
            · refine lv_iload hx hb dX12_isCovered_180 (lv_at hl 0 rfl) ?_
              refine lv_if_eq (tgt := 187) hx hb dX12_isCovered_182 (by decide) (fun c9 => absurd c9 (by decide)) (fun _ => ?_)
              exact kk2  _ _ _  (hP.sub [0, 1, 2, 3, 4] rfl) (hD.sub [0, 1, 2, 3, 4] (by decide) rfl) hS (lv_sub hl [5] rfl)
        · refine lv_iload hx hb dX12_isCovered_156 (lv_at hl 7 rfl) ?_
          refine lv_iload hx hb dX12_isCovered_158 (lv_at hl 0 rfl) ?_
          refine lv_icmp_gt (tgt := 167) hx hb dX12_isCovered_160 (by decide) (fun c_38 => ?_) (fun c_38 => ?_)
          · refine lv_iconst (v := 0) hx hb dX12_isCovered_167 (by decide) ?_
            refine lv_istore (lv' := [(12, .int 0), (11, .int x_33), (10, .int x_30), (9, .int r_26), (8, .int r_17), (0, .ref h0), (1, .int (nI b)), (2, .int pl_), (6, .int dt), (7, .int (nI kv))]) hx hb dX12_isCovered_168 hl (by decide) rfl (fun ls hl => ?_)
            refine lv_iload hx hb dX12_isCovered_170 (lv_at hl 4 rfl) ?_
            refine lv_if_eq (tgt := 187) hx hb dX12_isCovered_172 (by decide) (fun c_39 => ?_) (fun c_39 => ?_)
            · refine lv_iinc (v := (nI (kv + 6))) (lv' := [(7, .int (nI (kv + 6))), (12, .int 0), (11, .int x_33), (10, .int x_30), (9, .int r_26), (8, .int r_17), (0, .ref h0), (1, .int (nI b)), (2, .int pl_), (6, .int dt)]) hx hb dX12_isCovered_187 hl (k := 9) rfl (show nI kv + 6 = nI (kv + 6) from nI_add kv 6) (by decide) rfl (fun ls hl => ?_)
              refine lv_goto (tgt := 37) hx hb dX12_isCovered_190 (by decide) ?_
              exact ih (kv + 6) _ _ _ (by omega) (by omega) (hP.sub [0, 1, 2, 3, 4] rfl) (hD.sub [0, 1, 2, 3, 4] (by decide) rfl) hS (lv_sub hl [6, 7, 8, 9, 0] rfl)
            · refine lv_iload hx hb dX12_isCovered_175 (lv_at hl 3 rfl) ?_
              refine lv_if_eq (tgt := 187) hx hb dX12_isCovered_177 (by decide) (fun c_40 => ?_) (fun c_40 => ?_)
              · refine lv_iinc (v := (nI (kv + 6))) (lv' := [(7, .int (nI (kv + 6))), (12, .int 0), (11, .int x_33), (10, .int x_30), (9, .int r_26), (8, .int r_17), (0, .ref h0), (1, .int (nI b)), (2, .int pl_), (6, .int dt)]) hx hb dX12_isCovered_187 hl (k := 9) rfl (show nI kv + 6 = nI (kv + 6) from nI_add kv 6) (by decide) rfl (fun ls hl => ?_)
                refine lv_goto (tgt := 37) hx hb dX12_isCovered_190 (by decide) ?_
                exact ih (kv + 6) _ _ _ (by omega) (by omega) (hP.sub [0, 1, 2, 3, 4] rfl) (hD.sub [0, 1, 2, 3, 4] (by decide) rfl) hS (lv_sub hl [6, 7, 8, 9, 0] rfl)
              · refine lv_iload hx hb dX12_isCovered_180 (lv_at hl 0 rfl) ?_
                refine lv_if_eq (tgt := 187) hx hb dX12_isCovered_182 (by decide) (fun _ => ?_) (fun c9 => absurd c9 (by decide))
                refine lv_iinc (v := (nI (kv + 6))) (lv' := [(7, .int (nI (kv + 6))), (12, .int 0), (11, .int x_33), (10, .int x_30), (9, .int r_26), (8, .int r_17), (0, .ref h0), (1, .int (nI b)), (2, .int pl_), (6, .int dt)]) hx hb dX12_isCovered_187 hl (k := 9) rfl (show nI kv + 6 = nI (kv + 6) from nI_add kv 6) (by decide) rfl (fun ls hl => ?_)
                refine lv_goto (tgt := 37) hx hb dX12_isCovered_190 (by decide) ?_
                exact ih (kv + 6) _ _ _ (by omega) (by omega) (hP.sub [0, 1, 2, 3, 4] rfl) (hD.sub [0, 1, 2, 3, 4] (by decide) rfl) hS (lv_sub hl [6, 7, 8, 9, 0] rfl)
          · refine lv_iconst (v := 1) hx hb dX12_isCovered_163 (by decide) ?_
            refine lv_goto (tgt := 168) hx hb dX12_isCovered_164 (by decide) ?_
            refine lv_istore (lv' := [(12, .int 1), (11, .int x_33), (10, .int x_30), (9, .int r_26), (8, .int r_17), (0, .ref h0), (1, .int (nI b)), (2, .int pl_), (6, .int dt), (7, .int (nI kv))]) hx hb dX12_isCovered_168 hl (by decide) rfl (fun ls hl => ?_)
            refine lv_iload hx hb dX12_isCovered_170 (lv_at hl 4 rfl) ?_
            refine lv_if_eq (tgt := 187) hx hb dX12_isCovered_172 (by decide) (fun c_41 => ?_) (fun c_41 => ?_)
            · refine lv_iinc (v := (nI (kv + 6))) (lv' := [(7, .int (nI (kv + 6))), (12, .int 1), (11, .int x_33), (10, .int x_30), (9, .int r_26), (8, .int r_17), (0, .ref h0), (1, .int (nI b)), (2, .int pl_), (6, .int dt)]) hx hb dX12_isCovered_187 hl (k := 9) rfl (show nI kv + 6 = nI (kv + 6) from nI_add kv 6) (by decide) rfl (fun ls hl => ?_)
              refine lv_goto (tgt := 37) hx hb dX12_isCovered_190 (by decide) ?_
              exact ih (kv + 6) _ _ _ (by omega) (by omega) (hP.sub [0, 1, 2, 3, 4] rfl) (hD.sub [0, 1, 2, 3, 4] (by decide) rfl) hS (lv_sub hl [6, 7, 8, 9, 0] rfl)
            · refine lv_iload hx hb dX12_isCovered_175 (lv_at hl 3 rfl) ?_
              refine lv_if_eq (tgt := 187) hx hb dX12_isCovered_177 (by decide) (fun c_42 => ?_) (fun c_42 => ?_)
              · refine lv_iinc (v := (nI (kv + 6))) (lv' := [(7, .int (nI (kv + 6))), (12, .int 1), (11, .int x_33), (10, .int x_30), (9, .int r_26), (8, .int r_17), (0, .ref h0), (1, .int (nI b)), (2, .int pl_), (6, .int dt)]) hx hb dX12_isCovered_187 hl (k := 9) rfl (show nI kv + 6 = nI (kv + 6) from nI_add kv 6) (by decide) rfl (fun ls hl => ?_)
                refine lv_goto (tgt := 37) hx hb dX12_isCovered_190 (by decide) ?_
                exact ih (kv + 6) _ _ _ (by omega) (by omega) (hP.sub [0, 1, 2, 3, 4] rfl) (hD.sub [0, 1, 2, 3, 4] (by decide) rfl) hS (lv_sub hl [6, 7, 8, 9, 0] rfl)
              · refine lv_iload hx hb dX12_isCovered_180 (lv_at hl 0 rfl) ?_
                refine lv_if_eq (tgt := 187) hx hb dX12_isCovered_182 (by decide) (fun c9 => absurd c9 (by decide)) (fun _ => ?_)
                exact kk2  _ _ _  (hP.sub [0, 1, 2, 3, 4] rfl) (hD.sub [0, 1, 2, 3, 4] (by decide) rfl) hS (lv_sub hl [5] rfl)
      · refine lv_iload hx hb dX12_isCovered_137 (lv_at hl 7 rfl) ?_
        refine lv_iload hx hb dX12_isCovered_139 (lv_at hl 1 rfl) ?_
        refine lv_iload hx hb dX12_isCovered_141 (lv_at hl 0 rfl) ?_
        have hPc := hP.sub (ws' := []) [] rfl
        have hDc := hD.sub (ws' := []) [] (by decide) rfl
        have hFc := va_free (wc := []) hD hS hA [] rfl
        refine va_calli (va_runS (As := [.int dt, .int x_30, .int x_33]) (rest := []) ⟨hx, hb, hml, hown, hts⟩ (c_X12_in l E dt x_30 x_33 H.size ) (va_cwS 3 hts gX12_isCovered_X12_in rfl rfl rfl hdS_X12_in ⟨Nat.le_of_ble_eq_true rfl, Nat.le_of_ble_eq_true rfl⟩) ⟨pcW_blind, (pcW_pre hPc hkn hDc hst hS hFc)⟩ rfl rfl hl.1 rfl (lv_room (Nat.le_of_ble_eq_true rfl)) dX12_isCovered_143 ⟨Nat.le_of_ble_eq_true rfl, Nat.le_of_ble_eq_true rfl⟩) hS (fun q _ h => hFc q h) hFc (fun r_43 u t H1 locs ht hvm hw_44 hB hz1 hk1 hS => ?_)
        obtain ⟨hP1, hD1⟩ := hB
        rw [ht] at hP1
        try dsimp only at hw_44
        obtain ⟨hP, hD⟩ := va_join (wr := [(h0, .inr (12, mG q i_taped i_size i_sort i_what i_at i_end i_worth i_faultKind i_faultPlace i_got i_worked i_deliveries i_isPlanned i_bestDone i_bestCost)), (q 12, .inl (E.2.1 0, 504, .inl a_boxes)), (q 13, .inl (E.2.1 0, 7, .inl a_boxMany)), (q 14, .inl (E.2.1 0, 7, .inl a_minCrew)), (q 15, .inl (E.2.1 0, 7, .inl a_maxForce))]) (w1 := []) hP hD [] [0, 1, 2, 3, 4] rfl rfl (by decide) (by decide) hk1 hFc hP1 hD1
        generalize H1 = H at hP hS ⊢
        have hP : va_P E.1 vwCl [(h0, .inr (12, mG q i_taped i_size i_sort i_what i_at i_end i_worth i_faultKind i_faultPlace i_got i_worked i_deliveries i_isPlanned i_bestDone i_bestCost)), (q 12, .inl (E.2.1 0, 504, .inl a_boxes)), (q 13, .inl (E.2.1 0, 7, .inl a_boxMany)), (q 14, .inl (E.2.1 0, 7, .inl a_minCrew)), (q 15, .inl (E.2.1 0, 7, .inl a_maxForce))] H := hP
        have hD : va_D A [(h0, .inr (12, mG q i_taped i_size i_sort i_what i_at i_end i_worth i_faultKind i_faultPlace i_got i_worked i_deliveries i_isPlanned i_bestDone i_bestCost)), (q 12, .inl (E.2.1 0, 504, .inl a_boxes)), (q 13, .inl (E.2.1 0, 7, .inl a_boxMany)), (q 14, .inl (E.2.1 0, 7, .inl a_minCrew)), (q 15, .inl (E.2.1 0, 7, .inl a_maxForce))] := hD
        refine lv_goto (tgt := 168) hx hb dX12_isCovered_146 (by decide) ?_
        refine lv_istore (lv' := [(12, .int r_43), (11, .int x_33), (10, .int x_30), (9, .int r_26), (8, .int r_17), (0, .ref h0), (1, .int (nI b)), (2, .int pl_), (6, .int dt), (7, .int (nI kv))]) hx hb dX12_isCovered_168 hl (by decide) rfl (fun ls hl => ?_)
        refine lv_iload hx hb dX12_isCovered_170 (lv_at hl 4 rfl) ?_
        refine lv_if_eq (tgt := 187) hx hb dX12_isCovered_172 (by decide) (fun c_45 => ?_) (fun c_45 => ?_)
        · refine lv_iinc (v := (nI (kv + 6))) (lv' := [(7, .int (nI (kv + 6))), (12, .int r_43), (11, .int x_33), (10, .int x_30), (9, .int r_26), (8, .int r_17), (0, .ref h0), (1, .int (nI b)), (2, .int pl_), (6, .int dt)]) hx hb dX12_isCovered_187 hl (k := 9) rfl (show nI kv + 6 = nI (kv + 6) from nI_add kv 6) (by decide) rfl (fun ls hl => ?_)
          refine lv_goto (tgt := 37) hx hb dX12_isCovered_190 (by decide) ?_
          exact ih (kv + 6) _ _ _ (by omega) (by omega) (hP.sub [0, 1, 2, 3, 4] rfl) (hD.sub [0, 1, 2, 3, 4] (by decide) rfl) hS (lv_sub hl [6, 7, 8, 9, 0] rfl)
        · refine lv_iload hx hb dX12_isCovered_175 (lv_at hl 3 rfl) ?_
          refine lv_if_eq (tgt := 187) hx hb dX12_isCovered_177 (by decide) (fun c_46 => ?_) (fun c_46 => ?_)
          · refine lv_iinc (v := (nI (kv + 6))) (lv' := [(7, .int (nI (kv + 6))), (12, .int r_43), (11, .int x_33), (10, .int x_30), (9, .int r_26), (8, .int r_17), (0, .ref h0), (1, .int (nI b)), (2, .int pl_), (6, .int dt)]) hx hb dX12_isCovered_187 hl (k := 9) rfl (show nI kv + 6 = nI (kv + 6) from nI_add kv 6) (by decide) rfl (fun ls hl => ?_)
            refine lv_goto (tgt := 37) hx hb dX12_isCovered_190 (by decide) ?_
            exact ih (kv + 6) _ _ _ (by omega) (by omega) (hP.sub [0, 1, 2, 3, 4] rfl) (hD.sub [0, 1, 2, 3, 4] (by decide) rfl) hS (lv_sub hl [6, 7, 8, 9, 0] rfl)
          · refine lv_iload hx hb dX12_isCovered_180 (lv_at hl 0 rfl) ?_
            refine lv_if_eq (tgt := 187) hx hb dX12_isCovered_182 (by decide) (fun c_47 => ?_) (fun c_47 => ?_)
            · have b_48 : inR dt x_30 x_33 = false := bz hw_44 c_47
              refine lv_iinc (v := (nI (kv + 6))) (lv' := [(7, .int (nI (kv + 6))), (12, .int r_43), (11, .int x_33), (10, .int x_30), (9, .int r_26), (8, .int r_17), (0, .ref h0), (1, .int (nI b)), (2, .int pl_), (6, .int dt)]) hx hb dX12_isCovered_187 hl (k := 9) rfl (show nI kv + 6 = nI (kv + 6) from nI_add kv 6) (by decide) rfl (fun ls hl => ?_)
              refine lv_goto (tgt := 37) hx hb dX12_isCovered_190 (by decide) ?_
              exact ih (kv + 6) _ _ _ (by omega) (by omega) (hP.sub [0, 1, 2, 3, 4] rfl) (hD.sub [0, 1, 2, 3, 4] (by decide) rfl) hS (lv_sub hl [6, 7, 8, 9, 0] rfl)
            · have b_49 : inR dt x_30 x_33 = true := bn hw_44 c_47
              exact kk2  _ _ _  (hP.sub [0, 1, 2, 3, 4] rfl) (hD.sub [0, 1, 2, 3, 4] (by decide) rfl) hS (lv_sub hl [5] rfl)
set_option maxHeartbeats 4000000 in
set_option maxRecDepth 100000 in
theorem c_X12_isCovered (l : Launch) (E : vE) (h0 : Nat) (q : Nat → Nat) (i_taped : Int32) (i_size : Int32) (i_sort : Int32) (i_what : Int32) (i_at : Int32) (i_end : Int32) (i_worth : Int32) (i_faultKind : Int32) (i_faultPlace : Int32) (i_got : Int32) (i_worked : Int32) (i_deliveries : Int32) (i_isPlanned : Int32) (i_bestDone : Int32) (i_bestCost : Int32) (b : Nat) (a_boxes : Nat → Int32) (a_boxMany : Nat → Int32) (a_minCrew : Nat → Int32) (a_maxForce : Nat → Int32) (pl_ : Int32) (da : Int32) (cw : Int32) (fo : Int32) (sz : Nat) (hb6 : b < 6) (hI_boxMany : ∀ k : Nat, k < 7 → inR (a_boxMany k) 0 12 = true) : Met l yX12_isCovered wsX12_isCovered ({ frames := 2, cells := 0, slots := 0, locals := 44 }) (pcW E [.ref h0, .int (nI b), .int pl_, .int da, .int cw, .int fo] sz [(h0, .inr (12, mG q i_taped i_size i_sort i_what i_at i_end i_worth i_faultKind i_faultPlace i_got i_worked i_deliveries i_isPlanned i_bestDone i_bestCost)), (q 12, .inl (E.2.1 0, 504, .inl a_boxes)), (q 13, .inl (E.2.1 0, 7, .inl a_boxMany)), (q 14, .inl (E.2.1 0, 7, .inl a_minCrew)), (q 15, .inl (E.2.1 0, 7, .inl a_maxForce))]) (va_Qi (fun (r : Int32) (_ : Unit) => r = 0 ∨ r = 1) (fun (_ : Unit) (t : State) => wB E (va_A [(h0, .inr (12, mG q i_taped i_size i_sort i_what i_at i_end i_worth i_faultKind i_faultPlace i_got i_worked i_deliveries i_isPlanned i_bestDone i_bestCost)), (q 12, .inl (E.2.1 0, 504, .inl a_boxes)), (q 13, .inl (E.2.1 0, 7, .inl a_boxMany)), (q 14, .inl (E.2.1 0, 7, .inl a_minCrew)), (q 15, .inl (E.2.1 0, 7, .inl a_maxForce))] sz) [(h0, .inr (12, mG q i_taped i_size i_sort i_what i_at i_end i_worth i_faultKind i_faultPlace i_got i_worked i_deliveries i_isPlanned i_bestDone i_bestCost)), (q 12, .inl (E.2.1 0, 504, .inl a_boxes)), (q 13, .inl (E.2.1 0, 7, .inl a_boxMany)), (q 14, .inl (E.2.1 0, 7, .inl a_minCrew)), (q 15, .inl (E.2.1 0, 7, .inl a_maxForce))] t) (va_A [(h0, .inr (12, mG q i_taped i_size i_sort i_what i_at i_end i_worth i_faultKind i_faultPlace i_got i_worked i_deliveries i_isPlanned i_bestDone i_bestCost)), (q 12, .inl (E.2.1 0, 504, .inl a_boxes)), (q 13, .inl (E.2.1 0, 7, .inl a_boxMany)), (q 14, .inl (E.2.1 0, 7, .inl a_minCrew)), (q 15, .inl (E.2.1 0, 7, .inl a_maxForce))] sz)) 0 0 (va_A [(h0, .inr (12, mG q i_taped i_size i_sort i_what i_at i_end i_worth i_faultKind i_faultPlace i_got i_worked i_deliveries i_isPlanned i_bestDone i_bestCost)), (q 12, .inl (E.2.1 0, 504, .inl a_boxes)), (q 13, .inl (E.2.1 0, 7, .inl a_boxMany)), (q 14, .inl (E.2.1 0, 7, .inl a_minCrew)), (q 15, .inl (E.2.1 0, 7, .inl a_maxForce))] sz) := by
  refine Met.ofW (cc := cX12_isCovered) (maxL := 13) (ret := (some .boolean)) (by decide) rfl ?_
  intro p e s m args below meth c s₁ B hml hv
  obtain ⟨rfl, hsz, hP, hkn, hD0, hst⟩ := hv
  have hx := B.exec
  have hb := B.bytes
  have hr := B.returns
  have hts := atoms_spec (ws := wsX12_isCovered) B.pre
  have hown : s.vm.findClass RX12 = some m.cls := findClass_of_methodNamed B.named
  have hlocks := B.notSynchronized
  subst hsz
  have hD := hD0.self (sz := s.heap.size)
  have hK := hkn.1
  have hAO := hkn.2.2.1
  generalize hAe : va_A [(h0, .inr (12, mG q i_taped i_size i_sort i_what i_at i_end i_worth i_faultKind i_faultPlace i_got i_worked i_deliveries i_isPlanned i_bestDone i_bestCost)), (q 12, .inl (E.2.1 0, 504, .inl a_boxes)), (q 13, .inl (E.2.1 0, 7, .inl a_boxMany)), (q 14, .inl (E.2.1 0, 7, .inl a_minCrew)), (q 15, .inl (E.2.1 0, 7, .inl a_maxForce))] s.heap.size = A at hD hst ⊢
  have hA : ∀ q : Nat, s.heap.size ≤ q → A q := fun q h => by rw [← hAe]; exact Or.inr h
  have hS : va_S A s.heap s.heap [] := va_S.rf
  have hP : va_P E.1 vwCl [(h0, .inr (12, mG q i_taped i_size i_sort i_what i_at i_end i_worth i_faultKind i_faultPlace i_got i_worked i_deliveries i_isPlanned i_bestDone i_bestCost)), (q 12, .inl (E.2.1 0, 504, .inl a_boxes)), (q 13, .inl (E.2.1 0, 7, .inl a_boxMany)), (q 14, .inl (E.2.1 0, 7, .inl a_minCrew)), (q 15, .inl (E.2.1 0, 7, .inl a_maxForce))] s.heap := hP
  have hl := lv_entry ([.ref h0, .int (nI b), .int pl_, .int da, .int cw, .int fo]) (n := 13) (Nat.le_of_ble_eq_true rfl)
  rw [lg_entry_eq]
  generalize (lg_sl ([.ref h0, .int (nI b), .int pl_, .int da, .int cw, .int fo]) ++ List.replicate (13 - (lg_sl ([.ref h0, .int (nI b), .int pl_, .int da, .int cw, .int fo])).length) Slot.unset).toArray = ls at hl ⊢
  have hl : lv_has ls 13 [(0, .ref h0), (1, .int (nI b)), (2, .int pl_), (3, .int da), (4, .int cw), (5, .int fo)] := hl
  have fl24 := hts (.fieldLink RX12 24 "BoatsHomeModel" "boxes" "[I") (by first | exact List.mem_of_getElem? (i := 4) rfl | decide +kernel)
  have fl27 := hts (.fieldLink RX12 27 "BoatsHomeModel" "boxMany" "[I") (by first | exact List.mem_of_getElem? (i := 3) rfl | decide +kernel)
  have fl30 := hts (.fieldLink RX12 30 "BoatsHomeModel" "minCrew" "[I") (by first | exact List.mem_of_getElem? (i := 1) rfl | decide +kernel)
  have fl33 := hts (.fieldLink RX12 33 "BoatsHomeModel" "maxForce" "[I") (by first | exact List.mem_of_getElem? (i := 2) rfl | decide +kernel)
  have inX12 : ∀ w ∈ u_ws RX12 TX12 59, w ∈ wsX12_isCovered := by first | exact fun w h9 => (List.mem_cons_of_mem _ (List.mem_append_right _ h9)) | decide +kernel
  refine lv_iload hx hb dX12_isCovered_0 (lv_at hl 4 rfl) ?_
  refine lv_aload_n hx hb dX12_isCovered_2 rfl (lv_at hl 0 rfl) ?_
  refine va_get (D := E.1) (ci := 12) (v := .ref (q 14)) (C := RX12) (T := TX12) (N := 59) hx hb hts inX12 hown hK hP 0 rfl rfl 14 (by decide) fl30 (fun _ h9 => h9) rfl dX12_isCovered_3 ?_
  refine lv_iload_n hx hb dX12_isCovered_6 rfl (lv_at hl 1 rfl) ?_
  have hi_1 : vp_in (nI b) 7 := vp_in_nI (by omega) (by decide)
  refine va_iald hx hb hK hP 3 0 rfl rfl hi_1 dX12_isCovered_7 ?_
  refine lv_topi (fun x_2 ex_2 => ?_)
  refine lv_icmp_lt (tgt := 22) hx hb dX12_isCovered_8 (by decide) (fun c_3 => ?_) (fun c_3 => ?_)
  · refine lv_iconst (v := 0) hx hb dX12_isCovered_22 (by decide) ?_
    have hP9 := hP.sub (ws' := [(h0, .inr (12, mG q i_taped i_size i_sort i_what i_at i_end i_worth i_faultKind i_faultPlace i_got i_worked i_deliveries i_isPlanned i_bestDone i_bestCost)), (q 12, .inl (E.2.1 0, 504, .inl a_boxes)), (q 13, .inl (E.2.1 0, 7, .inl a_boxMany)), (q 14, .inl (E.2.1 0, 7, .inl a_minCrew)), (q 15, .inl (E.2.1 0, 7, .inl a_maxForce))]) [0, 1, 2, 3, 4] rfl
    have hD9 := hD.sub (ws' := [(h0, .inr (12, mG q i_taped i_size i_sort i_what i_at i_end i_worth i_faultKind i_faultPlace i_got i_worked i_deliveries i_isPlanned i_bestDone i_bestCost)), (q 12, .inl (E.2.1 0, 504, .inl a_boxes)), (q 13, .inl (E.2.1 0, 7, .inl a_boxMany)), (q 14, .inl (E.2.1 0, 7, .inl a_minCrew)), (q 15, .inl (E.2.1 0, 7, .inl a_maxForce))]) [0, 1, 2, 3, 4] (by decide) rfl
    exact W.zret (v := 0) hx hb hr (by decide) (fun t ht hW => ⟨⟨0, (), rfl, Or.inl rfl, by rw [ht]; exact hP9, hD9⟩, hS.F ht⟩) hS.2.2 dX12_isCovered_23
  · refine lv_iload hx hb dX12_isCovered_11 (lv_at hl 5 rfl) ?_
    refine lv_aload_n hx hb dX12_isCovered_13 rfl (lv_at hl 0 rfl) ?_
    refine va_get (D := E.1) (ci := 12) (v := .ref (q 15)) (C := RX12) (T := TX12) (N := 59) hx hb hts inX12 hown hK hP 0 rfl rfl 15 (by decide) fl33 (fun _ h9 => h9) rfl dX12_isCovered_14 ?_
    refine lv_iload_n hx hb dX12_isCovered_17 rfl (lv_at hl 1 rfl) ?_
    refine va_iald hx hb hK hP 4 0 rfl rfl hi_1 dX12_isCovered_18 ?_
    refine lv_topi (fun x_4 ex_4 => ?_)
    refine lv_icmp_le (tgt := 24) hx hb dX12_isCovered_19 (by decide) (fun c_5 => ?_) (fun c_5 => ?_)
    · refine lv_iload_n hx hb dX12_isCovered_24 rfl (lv_at hl 3 rfl) ?_
      refine lv_sipush (v := 360) hx hb dX12_isCovered_25 (by decide) ?_
      refine lv_irem hx hb dX12_isCovered_28 (by decide) ?_
      refine lv_topi (fun x_6 ex_6 => ?_)
      refine lv_istore (lv' := [(6, .int x_6), (0, .ref h0), (1, .int (nI b)), (2, .int pl_), (3, .int da), (4, .int cw), (5, .int fo)]) hx hb dX12_isCovered_29 hl (by decide) rfl (fun ls hl => ?_)
      refine lv_bipush (v := 72) hx hb dX12_isCovered_31 (by decide) ?_
      refine lv_iload_n hx hb dX12_isCovered_33 rfl (lv_at hl 2 rfl) ?_
      refine lv_imul hx hb dX12_isCovered_34 ?_
      refine lv_topi (fun x_7 ex_7 => ?_)
      obtain rfl : x_7 = nI (72 * b) := ex_7.trans (pk_mul 72 b)
      refine lv_istore (lv' := [(7, .int (nI (72 * b))), (6, .int x_6), (0, .ref h0), (1, .int (nI b)), (2, .int pl_), (3, .int da), (4, .int cw), (5, .int fo)]) hx hb dX12_isCovered_35 hl (by decide) rfl (fun ls hl => ?_)
      have hPl := hP.sub (ws' := [(h0, .inr (12, mG q i_taped i_size i_sort i_what i_at i_end i_worth i_faultKind i_faultPlace i_got i_worked i_deliveries i_isPlanned i_bestDone i_bestCost)), (q 12, .inl (E.2.1 0, 504, .inl a_boxes)), (q 13, .inl (E.2.1 0, 7, .inl a_boxMany)), (q 14, .inl (E.2.1 0, 7, .inl a_minCrew)), (q 15, .inl (E.2.1 0, 7, .inl a_maxForce))]) [0, 1, 2, 3, 4] rfl
      have hDl := hD.sub (ws' := [(h0, .inr (12, mG q i_taped i_size i_sort i_what i_at i_end i_worth i_faultKind i_faultPlace i_got i_worked i_deliveries i_isPlanned i_bestDone i_bestCost)), (q 12, .inl (E.2.1 0, 504, .inl a_boxes)), (q 13, .inl (E.2.1 0, 7, .inl a_boxMany)), (q 14, .inl (E.2.1 0, 7, .inl a_minCrew)), (q 15, .inl (E.2.1 0, 7, .inl a_maxForce))]) [0, 1, 2, 3, 4] (by decide) rfl
      refine lm_cover E h0 q i_taped i_size i_sort i_what i_at i_end i_worth i_faultKind i_faultPlace i_got i_worked i_deliveries i_isPlanned i_bestDone i_bestCost b pl_ x_6 a_boxes a_boxMany a_minCrew a_maxForce hx hb hml hown hts hkn hst hA (by omega) hI_boxMany (fun  H locs ls  hP hD hS hl => ?_) (fun  H locs ls  hP hD hS hl => ?_) 441 (72 * b) _ _ _ (by omega) (by omega) hPl hDl hS (lv_sub hl [2, 3, 4, 1, 0] rfl)
      · have hP : va_P E.1 vwCl [(h0, .inr (12, mG q i_taped i_size i_sort i_what i_at i_end i_worth i_faultKind i_faultPlace i_got i_worked i_deliveries i_isPlanned i_bestDone i_bestCost)), (q 12, .inl (E.2.1 0, 504, .inl a_boxes)), (q 13, .inl (E.2.1 0, 7, .inl a_boxMany)), (q 14, .inl (E.2.1 0, 7, .inl a_minCrew)), (q 15, .inl (E.2.1 0, 7, .inl a_maxForce))] H := hP
        have hD : va_D A [(h0, .inr (12, mG q i_taped i_size i_sort i_what i_at i_end i_worth i_faultKind i_faultPlace i_got i_worked i_deliveries i_isPlanned i_bestDone i_bestCost)), (q 12, .inl (E.2.1 0, 504, .inl a_boxes)), (q 13, .inl (E.2.1 0, 7, .inl a_boxMany)), (q 14, .inl (E.2.1 0, 7, .inl a_minCrew)), (q 15, .inl (E.2.1 0, 7, .inl a_maxForce))] := hD
        refine lv_iconst (v := 1) hx hb dX12_isCovered_193 (by decide) ?_
        have hP9 := hP.sub (ws' := [(h0, .inr (12, mG q i_taped i_size i_sort i_what i_at i_end i_worth i_faultKind i_faultPlace i_got i_worked i_deliveries i_isPlanned i_bestDone i_bestCost)), (q 12, .inl (E.2.1 0, 504, .inl a_boxes)), (q 13, .inl (E.2.1 0, 7, .inl a_boxMany)), (q 14, .inl (E.2.1 0, 7, .inl a_minCrew)), (q 15, .inl (E.2.1 0, 7, .inl a_maxForce))]) [0, 1, 2, 3, 4] rfl
        have hD9 := hD.sub (ws' := [(h0, .inr (12, mG q i_taped i_size i_sort i_what i_at i_end i_worth i_faultKind i_faultPlace i_got i_worked i_deliveries i_isPlanned i_bestDone i_bestCost)), (q 12, .inl (E.2.1 0, 504, .inl a_boxes)), (q 13, .inl (E.2.1 0, 7, .inl a_boxMany)), (q 14, .inl (E.2.1 0, 7, .inl a_minCrew)), (q 15, .inl (E.2.1 0, 7, .inl a_maxForce))]) [0, 1, 2, 3, 4] (by decide) rfl
        exact W.zret (v := 1) hx hb hr (by decide) (fun t ht hW => ⟨⟨1, (), rfl, Or.inr rfl, by rw [ht]; exact hP9, hD9⟩, hS.F ht⟩) hS.2.2 dX12_isCovered_194
      · have hP : va_P E.1 vwCl [(h0, .inr (12, mG q i_taped i_size i_sort i_what i_at i_end i_worth i_faultKind i_faultPlace i_got i_worked i_deliveries i_isPlanned i_bestDone i_bestCost)), (q 12, .inl (E.2.1 0, 504, .inl a_boxes)), (q 13, .inl (E.2.1 0, 7, .inl a_boxMany)), (q 14, .inl (E.2.1 0, 7, .inl a_minCrew)), (q 15, .inl (E.2.1 0, 7, .inl a_maxForce))] H := hP
        have hD : va_D A [(h0, .inr (12, mG q i_taped i_size i_sort i_what i_at i_end i_worth i_faultKind i_faultPlace i_got i_worked i_deliveries i_isPlanned i_bestDone i_bestCost)), (q 12, .inl (E.2.1 0, 504, .inl a_boxes)), (q 13, .inl (E.2.1 0, 7, .inl a_boxMany)), (q 14, .inl (E.2.1 0, 7, .inl a_minCrew)), (q 15, .inl (E.2.1 0, 7, .inl a_maxForce))] := hD
        refine lv_iconst (v := 0) hx hb dX12_isCovered_185 (by decide) ?_
        have hP9 := hP.sub (ws' := [(h0, .inr (12, mG q i_taped i_size i_sort i_what i_at i_end i_worth i_faultKind i_faultPlace i_got i_worked i_deliveries i_isPlanned i_bestDone i_bestCost)), (q 12, .inl (E.2.1 0, 504, .inl a_boxes)), (q 13, .inl (E.2.1 0, 7, .inl a_boxMany)), (q 14, .inl (E.2.1 0, 7, .inl a_minCrew)), (q 15, .inl (E.2.1 0, 7, .inl a_maxForce))]) [0, 1, 2, 3, 4] rfl
        have hD9 := hD.sub (ws' := [(h0, .inr (12, mG q i_taped i_size i_sort i_what i_at i_end i_worth i_faultKind i_faultPlace i_got i_worked i_deliveries i_isPlanned i_bestDone i_bestCost)), (q 12, .inl (E.2.1 0, 504, .inl a_boxes)), (q 13, .inl (E.2.1 0, 7, .inl a_boxMany)), (q 14, .inl (E.2.1 0, 7, .inl a_minCrew)), (q 15, .inl (E.2.1 0, 7, .inl a_maxForce))]) [0, 1, 2, 3, 4] (by decide) rfl
        exact W.zret (v := 0) hx hb hr (by decide) (fun t ht hW => ⟨⟨0, (), rfl, Or.inl rfl, by rw [ht]; exact hP9, hD9⟩, hS.F ht⟩) hS.2.2 dX12_isCovered_186
    · refine lv_iconst (v := 0) hx hb dX12_isCovered_22 (by decide) ?_
      have hP9 := hP.sub (ws' := [(h0, .inr (12, mG q i_taped i_size i_sort i_what i_at i_end i_worth i_faultKind i_faultPlace i_got i_worked i_deliveries i_isPlanned i_bestDone i_bestCost)), (q 12, .inl (E.2.1 0, 504, .inl a_boxes)), (q 13, .inl (E.2.1 0, 7, .inl a_boxMany)), (q 14, .inl (E.2.1 0, 7, .inl a_minCrew)), (q 15, .inl (E.2.1 0, 7, .inl a_maxForce))]) [0, 1, 2, 3, 4] rfl
      have hD9 := hD.sub (ws' := [(h0, .inr (12, mG q i_taped i_size i_sort i_what i_at i_end i_worth i_faultKind i_faultPlace i_got i_worked i_deliveries i_isPlanned i_bestDone i_bestCost)), (q 12, .inl (E.2.1 0, 504, .inl a_boxes)), (q 13, .inl (E.2.1 0, 7, .inl a_boxMany)), (q 14, .inl (E.2.1 0, 7, .inl a_minCrew)), (q 15, .inl (E.2.1 0, 7, .inl a_maxForce))]) [0, 1, 2, 3, 4] (by decide) rfl
      exact W.zret (v := 0) hx hb hr (by decide) (fun t ht hW => ⟨⟨0, (), rfl, Or.inl rfl, by rw [ht]; exact hP9, hD9⟩, hS.F ht⟩) hS.2.2 dX12_isCovered_23
set_option maxHeartbeats 4000000 in
set_option maxRecDepth 100000 in
theorem c_X12_covers (l : Launch) (E : vE) (h0 : Nat) (q : Nat → Nat) (i_taped : Int32) (i_size : Int32) (i_sort : Int32) (i_what : Int32) (i_at : Int32) (i_end : Int32) (i_worth : Int32) (i_faultKind : Int32) (i_faultPlace : Int32) (i_got : Int32) (i_worked : Int32) (i_deliveries : Int32) (i_isPlanned : Int32) (i_bestDone : Int32) (i_bestCost : Int32) (a_boxes : Nat → Int32) (a_boxMany : Nat → Int32) (a_minCrew : Nat → Int32) (a_maxForce : Nat → Int32) (b : Int32) (place : Int32) (day : Int32) (crew : Int32) (force : Int32) (sz : Nat) (hI_boxMany : ∀ k : Nat, k < 7 → inR (a_boxMany k) 0 12 = true) : Met l yX12_covers wsX12_covers ({ frames := 3, cells := 0, slots := 0, locals := 76 }) (pcW E [.ref h0, .int b, .int place, .int day, .int crew, .int force] sz [(h0, .inr (12, mG q i_taped i_size i_sort i_what i_at i_end i_worth i_faultKind i_faultPlace i_got i_worked i_deliveries i_isPlanned i_bestDone i_bestCost)), (q 12, .inl (E.2.1 0, 504, .inl a_boxes)), (q 13, .inl (E.2.1 0, 7, .inl a_boxMany)), (q 14, .inl (E.2.1 0, 7, .inl a_minCrew)), (q 15, .inl (E.2.1 0, 7, .inl a_maxForce))]) (va_Qi (fun (r : Int32) (_ : Unit) => True) (fun (_ : Unit) (t : State) => wB E (va_A [(h0, .inr (12, mG q i_taped i_size i_sort i_what i_at i_end i_worth i_faultKind i_faultPlace i_got i_worked i_deliveries i_isPlanned i_bestDone i_bestCost)), (q 12, .inl (E.2.1 0, 504, .inl a_boxes)), (q 13, .inl (E.2.1 0, 7, .inl a_boxMany)), (q 14, .inl (E.2.1 0, 7, .inl a_minCrew)), (q 15, .inl (E.2.1 0, 7, .inl a_maxForce))] sz) [(h0, .inr (12, mG q i_taped i_size i_sort i_what i_at i_end i_worth i_faultKind i_faultPlace i_got i_worked i_deliveries i_isPlanned i_bestDone i_bestCost)), (q 12, .inl (E.2.1 0, 504, .inl a_boxes)), (q 13, .inl (E.2.1 0, 7, .inl a_boxMany)), (q 14, .inl (E.2.1 0, 7, .inl a_minCrew)), (q 15, .inl (E.2.1 0, 7, .inl a_maxForce))] t) (va_A [(h0, .inr (12, mG q i_taped i_size i_sort i_what i_at i_end i_worth i_faultKind i_faultPlace i_got i_worked i_deliveries i_isPlanned i_bestDone i_bestCost)), (q 12, .inl (E.2.1 0, 504, .inl a_boxes)), (q 13, .inl (E.2.1 0, 7, .inl a_boxMany)), (q 14, .inl (E.2.1 0, 7, .inl a_minCrew)), (q 15, .inl (E.2.1 0, 7, .inl a_maxForce))] sz)) 0 0 (va_A [(h0, .inr (12, mG q i_taped i_size i_sort i_what i_at i_end i_worth i_faultKind i_faultPlace i_got i_worked i_deliveries i_isPlanned i_bestDone i_bestCost)), (q 12, .inl (E.2.1 0, 504, .inl a_boxes)), (q 13, .inl (E.2.1 0, 7, .inl a_boxMany)), (q 14, .inl (E.2.1 0, 7, .inl a_minCrew)), (q 15, .inl (E.2.1 0, 7, .inl a_maxForce))] sz) := by
  refine Met.ofW (cc := cX12_covers) (maxL := 6) (ret := (some .int)) (by decide) rfl ?_
  intro p e s m args below meth c s₁ B hml hv
  obtain ⟨rfl, hsz, hP, hkn, hD0, hst⟩ := hv
  have hx := B.exec
  have hb := B.bytes
  have hr := B.returns
  have hts := atoms_spec (ws := wsX12_covers) B.pre
  have hown : s.vm.findClass RX12 = some m.cls := findClass_of_methodNamed B.named
  have hlocks := B.notSynchronized
  subst hsz
  have hD := hD0.self (sz := s.heap.size)
  have hK := hkn.1
  have hAO := hkn.2.2.1
  generalize hAe : va_A [(h0, .inr (12, mG q i_taped i_size i_sort i_what i_at i_end i_worth i_faultKind i_faultPlace i_got i_worked i_deliveries i_isPlanned i_bestDone i_bestCost)), (q 12, .inl (E.2.1 0, 504, .inl a_boxes)), (q 13, .inl (E.2.1 0, 7, .inl a_boxMany)), (q 14, .inl (E.2.1 0, 7, .inl a_minCrew)), (q 15, .inl (E.2.1 0, 7, .inl a_maxForce))] s.heap.size = A at hD hst ⊢
  have hA : ∀ q : Nat, s.heap.size ≤ q → A q := fun q h => by rw [← hAe]; exact Or.inr h
  have hS : va_S A s.heap s.heap [] := va_S.rf
  have hP : va_P E.1 vwCl [(h0, .inr (12, mG q i_taped i_size i_sort i_what i_at i_end i_worth i_faultKind i_faultPlace i_got i_worked i_deliveries i_isPlanned i_bestDone i_bestCost)), (q 12, .inl (E.2.1 0, 504, .inl a_boxes)), (q 13, .inl (E.2.1 0, 7, .inl a_boxMany)), (q 14, .inl (E.2.1 0, 7, .inl a_minCrew)), (q 15, .inl (E.2.1 0, 7, .inl a_maxForce))] s.heap := hP
  have hl := lv_entry ([.ref h0, .int b, .int place, .int day, .int crew, .int force]) (n := 6) (Nat.le_of_ble_eq_true rfl)
  rw [lg_entry_eq]
  generalize (lg_sl ([.ref h0, .int b, .int place, .int day, .int crew, .int force]) ++ List.replicate (6 - (lg_sl ([.ref h0, .int b, .int place, .int day, .int crew, .int force])).length) Slot.unset).toArray = ls at hl ⊢
  have hl : lv_has ls 6 [(0, .ref h0), (1, .int b), (2, .int place), (3, .int day), (4, .int crew), (5, .int force)] := hl
  refine lv_iload_n hx hb dX12_covers_0 rfl (lv_at hl 1 rfl) ?_
  have hPc := hP.sub (ws' := []) [] rfl
  have hDc := hD.sub (ws' := []) [] (by decide) rfl
  have hFc := va_free (wc := []) hD hS hA [] rfl
  refine va_calli (va_runS (As := [.int b]) (rest := []) ⟨hx, hb, hml, hown, hts⟩ (c_X12_isBoat l E b s.heap.size ) (va_cwS 1 hts gX12_covers_X12_isBoat rfl rfl rfl hdS_X12_isBoat ⟨Nat.le_of_ble_eq_true rfl, Nat.le_of_ble_eq_true rfl⟩) ⟨pcW_blind, (pcW_pre hPc hkn hDc hst hS hFc)⟩ rfl rfl hl.1 rfl (lv_room (Nat.le_of_ble_eq_true rfl)) dX12_covers_1 ⟨Nat.le_of_ble_eq_true rfl, Nat.le_of_ble_eq_true rfl⟩) hS (fun q _ h => hFc q h) hFc (fun r_1 u t H1 locs ht hvm hw_2 hB hz1 hk1 hS => ?_)
  obtain ⟨hP1, hD1⟩ := hB
  rw [ht] at hP1
  try dsimp only at hw_2
  obtain ⟨hP, hD⟩ := va_join (wr := [(h0, .inr (12, mG q i_taped i_size i_sort i_what i_at i_end i_worth i_faultKind i_faultPlace i_got i_worked i_deliveries i_isPlanned i_bestDone i_bestCost)), (q 12, .inl (E.2.1 0, 504, .inl a_boxes)), (q 13, .inl (E.2.1 0, 7, .inl a_boxMany)), (q 14, .inl (E.2.1 0, 7, .inl a_minCrew)), (q 15, .inl (E.2.1 0, 7, .inl a_maxForce))]) (w1 := []) hP hD [] [0, 1, 2, 3, 4] rfl rfl (by decide) (by decide) hk1 hFc hP1 hD1
  generalize H1 = H at hP hS ⊢
  have hP : va_P E.1 vwCl [(h0, .inr (12, mG q i_taped i_size i_sort i_what i_at i_end i_worth i_faultKind i_faultPlace i_got i_worked i_deliveries i_isPlanned i_bestDone i_bestCost)), (q 12, .inl (E.2.1 0, 504, .inl a_boxes)), (q 13, .inl (E.2.1 0, 7, .inl a_boxMany)), (q 14, .inl (E.2.1 0, 7, .inl a_minCrew)), (q 15, .inl (E.2.1 0, 7, .inl a_maxForce))] H := hP
  have hD : va_D A [(h0, .inr (12, mG q i_taped i_size i_sort i_what i_at i_end i_worth i_faultKind i_faultPlace i_got i_worked i_deliveries i_isPlanned i_bestDone i_bestCost)), (q 12, .inl (E.2.1 0, 504, .inl a_boxes)), (q 13, .inl (E.2.1 0, 7, .inl a_boxMany)), (q 14, .inl (E.2.1 0, 7, .inl a_minCrew)), (q 15, .inl (E.2.1 0, 7, .inl a_maxForce))] := hD
  refine lv_if_eq (tgt := 47) hx hb dX12_covers_4 (by decide) (fun c_3 => ?_) (fun c_3 => ?_)
  · have b_4 : inR b 0 5 = false := bz hw_2 c_3
    refine lv_bipush (v := (-2)) hx hb dX12_covers_47 (by decide) ?_
    have hP9 := hP.sub (ws' := [(h0, .inr (12, mG q i_taped i_size i_sort i_what i_at i_end i_worth i_faultKind i_faultPlace i_got i_worked i_deliveries i_isPlanned i_bestDone i_bestCost)), (q 12, .inl (E.2.1 0, 504, .inl a_boxes)), (q 13, .inl (E.2.1 0, 7, .inl a_boxMany)), (q 14, .inl (E.2.1 0, 7, .inl a_minCrew)), (q 15, .inl (E.2.1 0, 7, .inl a_maxForce))]) [0, 1, 2, 3, 4] rfl
    have hD9 := hD.sub (ws' := [(h0, .inr (12, mG q i_taped i_size i_sort i_what i_at i_end i_worth i_faultKind i_faultPlace i_got i_worked i_deliveries i_isPlanned i_bestDone i_bestCost)), (q 12, .inl (E.2.1 0, 504, .inl a_boxes)), (q 13, .inl (E.2.1 0, 7, .inl a_boxMany)), (q 14, .inl (E.2.1 0, 7, .inl a_minCrew)), (q 15, .inl (E.2.1 0, 7, .inl a_maxForce))]) [0, 1, 2, 3, 4] (by decide) rfl
    exact W.iret (v := (-2)) hx hb hr (fun t ht hW => ⟨⟨(-2), (), rfl, trivial, by rw [ht]; exact hP9, hD9⟩, hS.F ht⟩) hS.2.2 dX12_covers_49
  · have b_5 : inR b 0 5 = true := bn hw_2 c_3
    refine lv_iload_n hx hb dX12_covers_7 rfl (lv_at hl 2 rfl) ?_
    have hPc := hP.sub (ws' := []) [] rfl
    have hDc := hD.sub (ws' := []) [] (by decide) rfl
    have hFc := va_free (wc := []) hD hS hA [] rfl
    refine va_calli (va_runS (As := [.int place]) (rest := []) ⟨hx, hb, hml, hown, hts⟩ (c_X12_isPlace l E place H.size ) (va_cwS 1 hts gX12_covers_X12_isPlace rfl rfl rfl hdS_X12_isPlace ⟨Nat.le_of_ble_eq_true rfl, Nat.le_of_ble_eq_true rfl⟩) ⟨pcW_blind, (pcW_pre hPc hkn hDc hst hS hFc)⟩ rfl rfl hl.1 rfl (lv_room (Nat.le_of_ble_eq_true rfl)) dX12_covers_8 ⟨Nat.le_of_ble_eq_true rfl, Nat.le_of_ble_eq_true rfl⟩) hS (fun q _ h => hFc q h) hFc (fun r_6 u t H1 locs ht hvm hw_7 hB hz1 hk1 hS => ?_)
    obtain ⟨hP1, hD1⟩ := hB
    rw [ht] at hP1
    try dsimp only at hw_7
    obtain ⟨hP, hD⟩ := va_join (wr := [(h0, .inr (12, mG q i_taped i_size i_sort i_what i_at i_end i_worth i_faultKind i_faultPlace i_got i_worked i_deliveries i_isPlanned i_bestDone i_bestCost)), (q 12, .inl (E.2.1 0, 504, .inl a_boxes)), (q 13, .inl (E.2.1 0, 7, .inl a_boxMany)), (q 14, .inl (E.2.1 0, 7, .inl a_minCrew)), (q 15, .inl (E.2.1 0, 7, .inl a_maxForce))]) (w1 := []) hP hD [] [0, 1, 2, 3, 4] rfl rfl (by decide) (by decide) hk1 hFc hP1 hD1
    generalize H1 = H at hP hS ⊢
    have hP : va_P E.1 vwCl [(h0, .inr (12, mG q i_taped i_size i_sort i_what i_at i_end i_worth i_faultKind i_faultPlace i_got i_worked i_deliveries i_isPlanned i_bestDone i_bestCost)), (q 12, .inl (E.2.1 0, 504, .inl a_boxes)), (q 13, .inl (E.2.1 0, 7, .inl a_boxMany)), (q 14, .inl (E.2.1 0, 7, .inl a_minCrew)), (q 15, .inl (E.2.1 0, 7, .inl a_maxForce))] H := hP
    have hD : va_D A [(h0, .inr (12, mG q i_taped i_size i_sort i_what i_at i_end i_worth i_faultKind i_faultPlace i_got i_worked i_deliveries i_isPlanned i_bestDone i_bestCost)), (q 12, .inl (E.2.1 0, 504, .inl a_boxes)), (q 13, .inl (E.2.1 0, 7, .inl a_boxMany)), (q 14, .inl (E.2.1 0, 7, .inl a_minCrew)), (q 15, .inl (E.2.1 0, 7, .inl a_maxForce))] := hD
    refine lv_if_eq (tgt := 47) hx hb dX12_covers_11 (by decide) (fun c_8 => ?_) (fun c_8 => ?_)
    · have b_9 : isPl place = false := bz hw_7 c_8
      refine lv_bipush (v := (-2)) hx hb dX12_covers_47 (by decide) ?_
      have hP9 := hP.sub (ws' := [(h0, .inr (12, mG q i_taped i_size i_sort i_what i_at i_end i_worth i_faultKind i_faultPlace i_got i_worked i_deliveries i_isPlanned i_bestDone i_bestCost)), (q 12, .inl (E.2.1 0, 504, .inl a_boxes)), (q 13, .inl (E.2.1 0, 7, .inl a_boxMany)), (q 14, .inl (E.2.1 0, 7, .inl a_minCrew)), (q 15, .inl (E.2.1 0, 7, .inl a_maxForce))]) [0, 1, 2, 3, 4] rfl
      have hD9 := hD.sub (ws' := [(h0, .inr (12, mG q i_taped i_size i_sort i_what i_at i_end i_worth i_faultKind i_faultPlace i_got i_worked i_deliveries i_isPlanned i_bestDone i_bestCost)), (q 12, .inl (E.2.1 0, 504, .inl a_boxes)), (q 13, .inl (E.2.1 0, 7, .inl a_boxMany)), (q 14, .inl (E.2.1 0, 7, .inl a_minCrew)), (q 15, .inl (E.2.1 0, 7, .inl a_maxForce))]) [0, 1, 2, 3, 4] (by decide) rfl
      exact W.iret (v := (-2)) hx hb hr (fun t ht hW => ⟨⟨(-2), (), rfl, trivial, by rw [ht]; exact hP9, hD9⟩, hS.F ht⟩) hS.2.2 dX12_covers_49
    · have b_10 : isPl place = true := bn hw_7 c_8
      refine lv_iload_n hx hb dX12_covers_14 rfl (lv_at hl 3 rfl) ?_
      refine lv_iconst (v := 0) hx hb dX12_covers_15 (by decide) ?_
      refine lv_sipush (v := 999) hx hb dX12_covers_16 (by decide) ?_
      have hPc := hP.sub (ws' := []) [] rfl
      have hDc := hD.sub (ws' := []) [] (by decide) rfl
      have hFc := va_free (wc := []) hD hS hA [] rfl
      refine va_calli (va_runS (As := [.int day, .int 0, .int 999]) (rest := []) ⟨hx, hb, hml, hown, hts⟩ (c_X12_in l E day 0 999 H.size ) (va_cwS 3 hts gX12_covers_X12_in rfl rfl rfl hdS_X12_in ⟨Nat.le_of_ble_eq_true rfl, Nat.le_of_ble_eq_true rfl⟩) ⟨pcW_blind, (pcW_pre hPc hkn hDc hst hS hFc)⟩ rfl rfl hl.1 rfl (lv_room (Nat.le_of_ble_eq_true rfl)) dX12_covers_19 ⟨Nat.le_of_ble_eq_true rfl, Nat.le_of_ble_eq_true rfl⟩) hS (fun q _ h => hFc q h) hFc (fun r_11 u t H1 locs ht hvm hw_12 hB hz1 hk1 hS => ?_)
      obtain ⟨hP1, hD1⟩ := hB
      rw [ht] at hP1
      try dsimp only at hw_12
      obtain ⟨hP, hD⟩ := va_join (wr := [(h0, .inr (12, mG q i_taped i_size i_sort i_what i_at i_end i_worth i_faultKind i_faultPlace i_got i_worked i_deliveries i_isPlanned i_bestDone i_bestCost)), (q 12, .inl (E.2.1 0, 504, .inl a_boxes)), (q 13, .inl (E.2.1 0, 7, .inl a_boxMany)), (q 14, .inl (E.2.1 0, 7, .inl a_minCrew)), (q 15, .inl (E.2.1 0, 7, .inl a_maxForce))]) (w1 := []) hP hD [] [0, 1, 2, 3, 4] rfl rfl (by decide) (by decide) hk1 hFc hP1 hD1
      generalize H1 = H at hP hS ⊢
      have hP : va_P E.1 vwCl [(h0, .inr (12, mG q i_taped i_size i_sort i_what i_at i_end i_worth i_faultKind i_faultPlace i_got i_worked i_deliveries i_isPlanned i_bestDone i_bestCost)), (q 12, .inl (E.2.1 0, 504, .inl a_boxes)), (q 13, .inl (E.2.1 0, 7, .inl a_boxMany)), (q 14, .inl (E.2.1 0, 7, .inl a_minCrew)), (q 15, .inl (E.2.1 0, 7, .inl a_maxForce))] H := hP
      have hD : va_D A [(h0, .inr (12, mG q i_taped i_size i_sort i_what i_at i_end i_worth i_faultKind i_faultPlace i_got i_worked i_deliveries i_isPlanned i_bestDone i_bestCost)), (q 12, .inl (E.2.1 0, 504, .inl a_boxes)), (q 13, .inl (E.2.1 0, 7, .inl a_boxMany)), (q 14, .inl (E.2.1 0, 7, .inl a_minCrew)), (q 15, .inl (E.2.1 0, 7, .inl a_maxForce))] := hD
      refine lv_if_eq (tgt := 47) hx hb dX12_covers_22 (by decide) (fun c_13 => ?_) (fun c_13 => ?_)
      · have b_14 : inR day 0 999 = false := bz hw_12 c_13
        refine lv_bipush (v := (-2)) hx hb dX12_covers_47 (by decide) ?_
        have hP9 := hP.sub (ws' := [(h0, .inr (12, mG q i_taped i_size i_sort i_what i_at i_end i_worth i_faultKind i_faultPlace i_got i_worked i_deliveries i_isPlanned i_bestDone i_bestCost)), (q 12, .inl (E.2.1 0, 504, .inl a_boxes)), (q 13, .inl (E.2.1 0, 7, .inl a_boxMany)), (q 14, .inl (E.2.1 0, 7, .inl a_minCrew)), (q 15, .inl (E.2.1 0, 7, .inl a_maxForce))]) [0, 1, 2, 3, 4] rfl
        have hD9 := hD.sub (ws' := [(h0, .inr (12, mG q i_taped i_size i_sort i_what i_at i_end i_worth i_faultKind i_faultPlace i_got i_worked i_deliveries i_isPlanned i_bestDone i_bestCost)), (q 12, .inl (E.2.1 0, 504, .inl a_boxes)), (q 13, .inl (E.2.1 0, 7, .inl a_boxMany)), (q 14, .inl (E.2.1 0, 7, .inl a_minCrew)), (q 15, .inl (E.2.1 0, 7, .inl a_maxForce))]) [0, 1, 2, 3, 4] (by decide) rfl
        exact W.iret (v := (-2)) hx hb hr (fun t ht hW => ⟨⟨(-2), (), rfl, trivial, by rw [ht]; exact hP9, hD9⟩, hS.F ht⟩) hS.2.2 dX12_covers_49
      · have b_15 : inR day 0 999 = true := bn hw_12 c_13
        refine lv_iload hx hb dX12_covers_25 (lv_at hl 4 rfl) ?_
        refine lv_iconst (v := 0) hx hb dX12_covers_27 (by decide) ?_
        refine lv_bipush (v := 9) hx hb dX12_covers_28 (by decide) ?_
        have hPc := hP.sub (ws' := []) [] rfl
        have hDc := hD.sub (ws' := []) [] (by decide) rfl
        have hFc := va_free (wc := []) hD hS hA [] rfl
        refine va_calli (va_runS (As := [.int crew, .int 0, .int 9]) (rest := []) ⟨hx, hb, hml, hown, hts⟩ (c_X12_in l E crew 0 9 H.size ) (va_cwS 3 hts gX12_covers_X12_in rfl rfl rfl hdS_X12_in ⟨Nat.le_of_ble_eq_true rfl, Nat.le_of_ble_eq_true rfl⟩) ⟨pcW_blind, (pcW_pre hPc hkn hDc hst hS hFc)⟩ rfl rfl hl.1 rfl (lv_room (Nat.le_of_ble_eq_true rfl)) dX12_covers_30 ⟨Nat.le_of_ble_eq_true rfl, Nat.le_of_ble_eq_true rfl⟩) hS (fun q _ h => hFc q h) hFc (fun r_16 u t H1 locs ht hvm hw_17 hB hz1 hk1 hS => ?_)
        obtain ⟨hP1, hD1⟩ := hB
        rw [ht] at hP1
        try dsimp only at hw_17
        obtain ⟨hP, hD⟩ := va_join (wr := [(h0, .inr (12, mG q i_taped i_size i_sort i_what i_at i_end i_worth i_faultKind i_faultPlace i_got i_worked i_deliveries i_isPlanned i_bestDone i_bestCost)), (q 12, .inl (E.2.1 0, 504, .inl a_boxes)), (q 13, .inl (E.2.1 0, 7, .inl a_boxMany)), (q 14, .inl (E.2.1 0, 7, .inl a_minCrew)), (q 15, .inl (E.2.1 0, 7, .inl a_maxForce))]) (w1 := []) hP hD [] [0, 1, 2, 3, 4] rfl rfl (by decide) (by decide) hk1 hFc hP1 hD1
        generalize H1 = H at hP hS ⊢
        have hP : va_P E.1 vwCl [(h0, .inr (12, mG q i_taped i_size i_sort i_what i_at i_end i_worth i_faultKind i_faultPlace i_got i_worked i_deliveries i_isPlanned i_bestDone i_bestCost)), (q 12, .inl (E.2.1 0, 504, .inl a_boxes)), (q 13, .inl (E.2.1 0, 7, .inl a_boxMany)), (q 14, .inl (E.2.1 0, 7, .inl a_minCrew)), (q 15, .inl (E.2.1 0, 7, .inl a_maxForce))] H := hP
        have hD : va_D A [(h0, .inr (12, mG q i_taped i_size i_sort i_what i_at i_end i_worth i_faultKind i_faultPlace i_got i_worked i_deliveries i_isPlanned i_bestDone i_bestCost)), (q 12, .inl (E.2.1 0, 504, .inl a_boxes)), (q 13, .inl (E.2.1 0, 7, .inl a_boxMany)), (q 14, .inl (E.2.1 0, 7, .inl a_minCrew)), (q 15, .inl (E.2.1 0, 7, .inl a_maxForce))] := hD
        refine lv_if_eq (tgt := 47) hx hb dX12_covers_33 (by decide) (fun c_18 => ?_) (fun c_18 => ?_)
        · have b_19 : inR crew 0 9 = false := bz hw_17 c_18
          refine lv_bipush (v := (-2)) hx hb dX12_covers_47 (by decide) ?_
          have hP9 := hP.sub (ws' := [(h0, .inr (12, mG q i_taped i_size i_sort i_what i_at i_end i_worth i_faultKind i_faultPlace i_got i_worked i_deliveries i_isPlanned i_bestDone i_bestCost)), (q 12, .inl (E.2.1 0, 504, .inl a_boxes)), (q 13, .inl (E.2.1 0, 7, .inl a_boxMany)), (q 14, .inl (E.2.1 0, 7, .inl a_minCrew)), (q 15, .inl (E.2.1 0, 7, .inl a_maxForce))]) [0, 1, 2, 3, 4] rfl
          have hD9 := hD.sub (ws' := [(h0, .inr (12, mG q i_taped i_size i_sort i_what i_at i_end i_worth i_faultKind i_faultPlace i_got i_worked i_deliveries i_isPlanned i_bestDone i_bestCost)), (q 12, .inl (E.2.1 0, 504, .inl a_boxes)), (q 13, .inl (E.2.1 0, 7, .inl a_boxMany)), (q 14, .inl (E.2.1 0, 7, .inl a_minCrew)), (q 15, .inl (E.2.1 0, 7, .inl a_maxForce))]) [0, 1, 2, 3, 4] (by decide) rfl
          exact W.iret (v := (-2)) hx hb hr (fun t ht hW => ⟨⟨(-2), (), rfl, trivial, by rw [ht]; exact hP9, hD9⟩, hS.F ht⟩) hS.2.2 dX12_covers_49
        · have b_20 : inR crew 0 9 = true := bn hw_17 c_18
          refine lv_iload hx hb dX12_covers_36 (lv_at hl 5 rfl) ?_
          refine lv_iconst (v := 0) hx hb dX12_covers_38 (by decide) ?_
          refine lv_bipush (v := 9) hx hb dX12_covers_39 (by decide) ?_
          have hPc := hP.sub (ws' := []) [] rfl
          have hDc := hD.sub (ws' := []) [] (by decide) rfl
          have hFc := va_free (wc := []) hD hS hA [] rfl
          refine va_calli (va_runS (As := [.int force, .int 0, .int 9]) (rest := []) ⟨hx, hb, hml, hown, hts⟩ (c_X12_in l E force 0 9 H.size ) (va_cwS 3 hts gX12_covers_X12_in rfl rfl rfl hdS_X12_in ⟨Nat.le_of_ble_eq_true rfl, Nat.le_of_ble_eq_true rfl⟩) ⟨pcW_blind, (pcW_pre hPc hkn hDc hst hS hFc)⟩ rfl rfl hl.1 rfl (lv_room (Nat.le_of_ble_eq_true rfl)) dX12_covers_41 ⟨Nat.le_of_ble_eq_true rfl, Nat.le_of_ble_eq_true rfl⟩) hS (fun q _ h => hFc q h) hFc (fun r_21 u t H1 locs ht hvm hw_22 hB hz1 hk1 hS => ?_)
          obtain ⟨hP1, hD1⟩ := hB
          rw [ht] at hP1
          try dsimp only at hw_22
          obtain ⟨hP, hD⟩ := va_join (wr := [(h0, .inr (12, mG q i_taped i_size i_sort i_what i_at i_end i_worth i_faultKind i_faultPlace i_got i_worked i_deliveries i_isPlanned i_bestDone i_bestCost)), (q 12, .inl (E.2.1 0, 504, .inl a_boxes)), (q 13, .inl (E.2.1 0, 7, .inl a_boxMany)), (q 14, .inl (E.2.1 0, 7, .inl a_minCrew)), (q 15, .inl (E.2.1 0, 7, .inl a_maxForce))]) (w1 := []) hP hD [] [0, 1, 2, 3, 4] rfl rfl (by decide) (by decide) hk1 hFc hP1 hD1
          generalize H1 = H at hP hS ⊢
          have hP : va_P E.1 vwCl [(h0, .inr (12, mG q i_taped i_size i_sort i_what i_at i_end i_worth i_faultKind i_faultPlace i_got i_worked i_deliveries i_isPlanned i_bestDone i_bestCost)), (q 12, .inl (E.2.1 0, 504, .inl a_boxes)), (q 13, .inl (E.2.1 0, 7, .inl a_boxMany)), (q 14, .inl (E.2.1 0, 7, .inl a_minCrew)), (q 15, .inl (E.2.1 0, 7, .inl a_maxForce))] H := hP
          have hD : va_D A [(h0, .inr (12, mG q i_taped i_size i_sort i_what i_at i_end i_worth i_faultKind i_faultPlace i_got i_worked i_deliveries i_isPlanned i_bestDone i_bestCost)), (q 12, .inl (E.2.1 0, 504, .inl a_boxes)), (q 13, .inl (E.2.1 0, 7, .inl a_boxMany)), (q 14, .inl (E.2.1 0, 7, .inl a_minCrew)), (q 15, .inl (E.2.1 0, 7, .inl a_maxForce))] := hD
          refine lv_if_ne (tgt := 50) hx hb dX12_covers_44 (by decide) (fun c_23 => ?_) (fun c_23 => ?_)
          · have b_24 : inR force 0 9 = true := bn hw_22 c_23
            obtain ⟨j_b, hj_b, ej_b⟩ := inR_nI (n := 5) (by decide) b_5
            subst ej_b
            refine lv_aload_n hx hb dX12_covers_50 rfl (lv_at hl 0 rfl) ?_
            refine lv_iload_n hx hb dX12_covers_51 rfl (lv_at hl 1 rfl) ?_
            refine lv_iload_n hx hb dX12_covers_52 rfl (lv_at hl 2 rfl) ?_
            refine lv_iload_n hx hb dX12_covers_53 rfl (lv_at hl 3 rfl) ?_
            refine lv_iload hx hb dX12_covers_54 (lv_at hl 4 rfl) ?_
            refine lv_iload hx hb dX12_covers_56 (lv_at hl 5 rfl) ?_
            have hPc := hP.sub (ws' := [(h0, .inr (12, mG q i_taped i_size i_sort i_what i_at i_end i_worth i_faultKind i_faultPlace i_got i_worked i_deliveries i_isPlanned i_bestDone i_bestCost)), (q 12, .inl (E.2.1 0, 504, .inl a_boxes)), (q 13, .inl (E.2.1 0, 7, .inl a_boxMany)), (q 14, .inl (E.2.1 0, 7, .inl a_minCrew)), (q 15, .inl (E.2.1 0, 7, .inl a_maxForce))]) [0, 1, 2, 3, 4] rfl
            have hDc := hD.sub (ws' := [(h0, .inr (12, mG q i_taped i_size i_sort i_what i_at i_end i_worth i_faultKind i_faultPlace i_got i_worked i_deliveries i_isPlanned i_bestDone i_bestCost)), (q 12, .inl (E.2.1 0, 504, .inl a_boxes)), (q 13, .inl (E.2.1 0, 7, .inl a_boxMany)), (q 14, .inl (E.2.1 0, 7, .inl a_minCrew)), (q 15, .inl (E.2.1 0, 7, .inl a_maxForce))]) [0, 1, 2, 3, 4] (by decide) rfl
            have hFc := va_free (wc := [(h0, .inr (12, mG q i_taped i_size i_sort i_what i_at i_end i_worth i_faultKind i_faultPlace i_got i_worked i_deliveries i_isPlanned i_bestDone i_bestCost)), (q 12, .inl (E.2.1 0, 504, .inl a_boxes)), (q 13, .inl (E.2.1 0, 7, .inl a_boxMany)), (q 14, .inl (E.2.1 0, 7, .inl a_minCrew)), (q 15, .inl (E.2.1 0, 7, .inl a_maxForce))]) hD hS hA [0, 1, 2, 3, 4] rfl
            refine va_calli (va_runV (As := [.int (nI j_b), .int place, .int day, .int crew, .int force]) (rest := []) ⟨hx, hb, hml, hown, hts⟩ (c_X12_isCovered l E h0 q i_taped i_size i_sort i_what i_at i_end i_worth i_faultKind i_faultPlace i_got i_worked i_deliveries i_isPlanned i_bestDone i_bestCost j_b a_boxes a_boxMany a_minCrew a_maxForce place day crew force H.size (by omega) hI_boxMany) (cwV 5 hts gX12_covers_X12_isCovered rfl rfl rfl hdV_X12_isCovered ⟨Nat.le_of_ble_eq_true rfl, Nat.le_of_ble_eq_true rfl⟩) ⟨pcW_blind, va_recv hK hPc (ci := 12) (q0 := 0) rfl rfl, (pcW_pre hPc hkn hDc hst hS hFc)⟩ rfl rfl hl.1 rfl (lv_room (Nat.le_of_ble_eq_true rfl)) dX12_covers_58 ⟨Nat.le_of_ble_eq_true rfl, Nat.le_of_ble_eq_true rfl⟩) hS (fun q _ h => hFc q h) hFc (fun r_25 u t H1 locs ht hvm hw_26 hB hz1 hk1 hS => ?_)
            obtain ⟨hP1, hD1⟩ := hB
            rw [ht] at hP1
            try dsimp only at hw_26
            obtain ⟨hP, hD⟩ := va_join (wr := []) (w1 := [(h0, .inr (12, mG q i_taped i_size i_sort i_what i_at i_end i_worth i_faultKind i_faultPlace i_got i_worked i_deliveries i_isPlanned i_bestDone i_bestCost)), (q 12, .inl (E.2.1 0, 504, .inl a_boxes)), (q 13, .inl (E.2.1 0, 7, .inl a_boxMany)), (q 14, .inl (E.2.1 0, 7, .inl a_minCrew)), (q 15, .inl (E.2.1 0, 7, .inl a_maxForce))]) hP hD [0, 1, 2, 3, 4] [] rfl rfl (by decide) (by decide) hk1 hFc hP1 hD1
            generalize H1 = H at hP hS ⊢
            have hP : va_P E.1 vwCl [(h0, .inr (12, mG q i_taped i_size i_sort i_what i_at i_end i_worth i_faultKind i_faultPlace i_got i_worked i_deliveries i_isPlanned i_bestDone i_bestCost)), (q 12, .inl (E.2.1 0, 504, .inl a_boxes)), (q 13, .inl (E.2.1 0, 7, .inl a_boxMany)), (q 14, .inl (E.2.1 0, 7, .inl a_minCrew)), (q 15, .inl (E.2.1 0, 7, .inl a_maxForce))] H := hP
            have hD : va_D A [(h0, .inr (12, mG q i_taped i_size i_sort i_what i_at i_end i_worth i_faultKind i_faultPlace i_got i_worked i_deliveries i_isPlanned i_bestDone i_bestCost)), (q 12, .inl (E.2.1 0, 504, .inl a_boxes)), (q 13, .inl (E.2.1 0, 7, .inl a_boxMany)), (q 14, .inl (E.2.1 0, 7, .inl a_minCrew)), (q 15, .inl (E.2.1 0, 7, .inl a_maxForce))] := hD
            refine lv_if_eq (tgt := 68) hx hb dX12_covers_61 (by decide) (fun c_27 => ?_) (fun c_27 => ?_)
            · refine lv_iconst (v := 0) hx hb dX12_covers_68 (by decide) ?_
              have hP9 := hP.sub (ws' := [(h0, .inr (12, mG q i_taped i_size i_sort i_what i_at i_end i_worth i_faultKind i_faultPlace i_got i_worked i_deliveries i_isPlanned i_bestDone i_bestCost)), (q 12, .inl (E.2.1 0, 504, .inl a_boxes)), (q 13, .inl (E.2.1 0, 7, .inl a_boxMany)), (q 14, .inl (E.2.1 0, 7, .inl a_minCrew)), (q 15, .inl (E.2.1 0, 7, .inl a_maxForce))]) [0, 1, 2, 3, 4] rfl
              have hD9 := hD.sub (ws' := [(h0, .inr (12, mG q i_taped i_size i_sort i_what i_at i_end i_worth i_faultKind i_faultPlace i_got i_worked i_deliveries i_isPlanned i_bestDone i_bestCost)), (q 12, .inl (E.2.1 0, 504, .inl a_boxes)), (q 13, .inl (E.2.1 0, 7, .inl a_boxMany)), (q 14, .inl (E.2.1 0, 7, .inl a_minCrew)), (q 15, .inl (E.2.1 0, 7, .inl a_maxForce))]) [0, 1, 2, 3, 4] (by decide) rfl
              exact W.iret (v := 0) hx hb hr (fun t ht hW => ⟨⟨0, (), rfl, trivial, by rw [ht]; exact hP9, hD9⟩, hS.F ht⟩) hS.2.2 dX12_covers_69
            · refine lv_iconst (v := 1) hx hb dX12_covers_64 (by decide) ?_
              refine lv_goto (tgt := 69) hx hb dX12_covers_65 (by decide) ?_
              have hP9 := hP.sub (ws' := [(h0, .inr (12, mG q i_taped i_size i_sort i_what i_at i_end i_worth i_faultKind i_faultPlace i_got i_worked i_deliveries i_isPlanned i_bestDone i_bestCost)), (q 12, .inl (E.2.1 0, 504, .inl a_boxes)), (q 13, .inl (E.2.1 0, 7, .inl a_boxMany)), (q 14, .inl (E.2.1 0, 7, .inl a_minCrew)), (q 15, .inl (E.2.1 0, 7, .inl a_maxForce))]) [0, 1, 2, 3, 4] rfl
              have hD9 := hD.sub (ws' := [(h0, .inr (12, mG q i_taped i_size i_sort i_what i_at i_end i_worth i_faultKind i_faultPlace i_got i_worked i_deliveries i_isPlanned i_bestDone i_bestCost)), (q 12, .inl (E.2.1 0, 504, .inl a_boxes)), (q 13, .inl (E.2.1 0, 7, .inl a_boxMany)), (q 14, .inl (E.2.1 0, 7, .inl a_minCrew)), (q 15, .inl (E.2.1 0, 7, .inl a_maxForce))]) [0, 1, 2, 3, 4] (by decide) rfl
              exact W.iret (v := 1) hx hb hr (fun t ht hW => ⟨⟨1, (), rfl, trivial, by rw [ht]; exact hP9, hD9⟩, hS.F ht⟩) hS.2.2 dX12_covers_69
          · have b_28 : inR force 0 9 = false := bz hw_22 c_23
            refine lv_bipush (v := (-2)) hx hb dX12_covers_47 (by decide) ?_
            have hP9 := hP.sub (ws' := [(h0, .inr (12, mG q i_taped i_size i_sort i_what i_at i_end i_worth i_faultKind i_faultPlace i_got i_worked i_deliveries i_isPlanned i_bestDone i_bestCost)), (q 12, .inl (E.2.1 0, 504, .inl a_boxes)), (q 13, .inl (E.2.1 0, 7, .inl a_boxMany)), (q 14, .inl (E.2.1 0, 7, .inl a_minCrew)), (q 15, .inl (E.2.1 0, 7, .inl a_maxForce))]) [0, 1, 2, 3, 4] rfl
            have hD9 := hD.sub (ws' := [(h0, .inr (12, mG q i_taped i_size i_sort i_what i_at i_end i_worth i_faultKind i_faultPlace i_got i_worked i_deliveries i_isPlanned i_bestDone i_bestCost)), (q 12, .inl (E.2.1 0, 504, .inl a_boxes)), (q 13, .inl (E.2.1 0, 7, .inl a_boxMany)), (q 14, .inl (E.2.1 0, 7, .inl a_minCrew)), (q 15, .inl (E.2.1 0, 7, .inl a_maxForce))]) [0, 1, 2, 3, 4] (by decide) rfl
            exact W.iret (v := (-2)) hx hb hr (fun t ht hW => ⟨⟨(-2), (), rfl, trivial, by rw [ht]; exact hP9, hD9⟩, hS.F ht⟩) hS.2.2 dX12_covers_49
set_option maxHeartbeats 4000000 in
set_option maxRecDepth 100000 in
theorem lm_broken {p : Program} {l : Launch} {e : Env} {R : Room} {s : State} {m : MethodId} {args : Array Value} {below : List Frame} {meth : Method} {c : Code} {cells slots : Nat} {Q : State → Prop} {A : Nat → Prop} (E : vE) (h0 : Nat) (q : Nat → Nat) (i_taped : Int32) (i_size : Int32) (i_sort : Int32) (i_what : Int32) (i_at : Int32) (i_end : Int32) (i_worth : Int32) (i_faultKind : Int32) (i_faultPlace : Int32) (i_got : Int32) (i_worked : Int32) (i_deliveries : Int32) (i_isPlanned : Int32) (i_bestDone : Int32) (i_bestCost : Int32) (b : Nat) (a_lasts : Nat → Int32) (hx : p.tables.exec = Jvm.exec) (hb : c.code = cX12_brokenOf) (hml : c.maxLocals = 4) (hown : s.vm.findClass RX12 = some m.cls) (hts : ∀ w ∈ wsX12_brokenOf, w.before args s = true) (hkn : kn E s) (hst : st E A s s.heap) (hA : ∀ q : Nat, s.heap.size ≤ q → A q) (hb6 : b < 6) (kk : ∀ (nn_ : Int32) (H : Heap) (locs : List Loc) (ls : Array Slot), va_P E.1 vwCl [(h0, .inr (12, mG q i_taped i_size i_sort i_what i_at i_end i_worth i_faultKind i_faultPlace i_got i_worked i_deliveries i_isPlanned i_bestDone i_bestCost)), (q 22, .inl (E.2.1 0, 24, .inl a_lasts))] H → va_D A [(h0, .inr (12, mG q i_taped i_size i_sort i_what i_at i_end i_worth i_faultKind i_faultPlace i_got i_worked i_deliveries i_isPlanned i_bestDone i_bestCost)), (q 22, .inl (E.2.1 0, 24, .inl a_lasts))] → va_S A s.heap H locs → lv_has ls 4 [(0, .ref h0), (2, .int nn_)] → W p l e R s m args below meth c H locs cells slots Q (F0 m 39 ls [])) : ∀ (n0 : Nat) (kv : Nat) (nn_ : Int32) (H : Heap) (locs : List Loc) (ls : Array Slot), 4 * b + 4 - kv < n0 → (kv ≤ 4 * b + 4) → va_P E.1 vwCl [(h0, .inr (12, mG q i_taped i_size i_sort i_what i_at i_end i_worth i_faultKind i_faultPlace i_got i_worked i_deliveries i_isPlanned i_bestDone i_bestCost)), (q 22, .inl (E.2.1 0, 24, .inl a_lasts))] H → va_D A [(h0, .inr (12, mG q i_taped i_size i_sort i_what i_at i_end i_worth i_faultKind i_faultPlace i_got i_worked i_deliveries i_isPlanned i_bestDone i_bestCost)), (q 22, .inl (E.2.1 0, 24, .inl a_lasts))] → va_S A s.heap H locs → lv_has ls 4 [(0, .ref h0), (1, .int (nI b)), (2, .int nn_), (3, .int (nI kv))] → W p l e R s m args below meth c H locs cells slots Q (F0 m 6 ls []) := by
  have hK := hkn.1
  have hAO := hkn.2.2.1
  have fl51 := hts (.fieldLink RX12 51 "BoatsHomeModel" "lasts" "[I") (by first | exact List.mem_of_getElem? (i := 1) rfl | decide +kernel)
  have inX12 : ∀ w ∈ u_ws RX12 TX12 59, w ∈ wsX12_brokenOf := by first | exact fun w h9 => (List.mem_cons_of_mem _ (List.mem_append_right _ h9)) | decide +kernel
  intro n0
  induction n0 with
  | zero =>
    intro kv nn_ H locs ls hn0
    exact absurd hn0 (Nat.not_lt_zero _)
  | succ n0 ih =>
    intro kv nn_ H locs ls hn0 hkv hP hD hS hl
    refine lv_iload_n hx hb dX12_brokenOf_6 rfl (lv_at hl 3 rfl) ?_
    refine lv_iconst (v := 4) hx hb dX12_brokenOf_7 (by decide) ?_
    refine lv_iload_n hx hb dX12_brokenOf_8 rfl (lv_at hl 1 rfl) ?_
    refine lv_imul hx hb dX12_brokenOf_9 ?_
    refine lv_topi (fun x_1 ex_1 => ?_)
    obtain rfl : x_1 = nI (4 * b) := ex_1.trans (pk_mul 4 b)
    refine lv_iconst (v := 4) hx hb dX12_brokenOf_10 (by decide) ?_
    refine lv_iadd hx hb dX12_brokenOf_11 ?_
    refine lv_topi (fun x_2 ex_2 => ?_)
    obtain rfl : x_2 = nI ((4 * b) + 4) := ex_2.trans (nI_add (4 * b) 4)
    refine lv_icmp_ge (tgt := 39) hx hb dX12_brokenOf_12 (by decide) (fun c_3 => ?_) (fun c_3 => ?_)
    · exact kk nn_ _ _ _  (hP.sub [0, 1] rfl) (hD.sub [0, 1] (by decide) rfl) hS (lv_sub hl [0, 2] rfl)
    · have hlt : kv < 4 * b + 4 := lt_of_nle (by omega) c_3
      refine lv_iload_n hx hb dX12_brokenOf_15 rfl (lv_at hl 2 rfl) ?_
      refine lv_aload_n hx hb dX12_brokenOf_16 rfl (lv_at hl 0 rfl) ?_
      refine va_get (D := E.1) (ci := 12) (v := .ref (q 22)) (C := RX12) (T := TX12) (N := 59) hx hb hts inX12 hown hK hP 0 rfl rfl 22 (by decide) fl51 (fun _ h9 => h9) rfl dX12_brokenOf_17 ?_
      refine lv_iload_n hx hb dX12_brokenOf_20 rfl (lv_at hl 3 rfl) ?_
      have hi_4 : vp_in (nI kv) 24 := vp_in_nI (by omega) (by decide)
      refine va_iald hx hb hK hP 1 0 rfl rfl hi_4 dX12_brokenOf_21 ?_
      refine lv_topi (fun x_5 ex_5 => ?_)
      refine lv_iconst (v := (-1)) hx hb dX12_brokenOf_22 (by decide) ?_
      refine lv_icmp_ne (tgt := 30) hx hb dX12_brokenOf_23 (by decide) (fun c_6 => ?_) (fun c_6 => ?_)
      · refine lv_iconst (v := 0) hx hb dX12_brokenOf_30 (by decide) ?_
        refine lv_iadd hx hb dX12_brokenOf_31 ?_
        refine lv_topi (fun x_7 ex_7 => ?_)
        refine lv_istore_n (lv' := [(2, .int x_7), (0, .ref h0), (1, .int (nI b)), (3, .int (nI kv))]) hx hb dX12_brokenOf_32 rfl hl (by decide) rfl (fun ls hl => ?_)
        refine lv_iinc (v := (nI (kv + 1))) (lv' := [(3, .int (nI (kv + 1))), (2, .int x_7), (0, .ref h0), (1, .int (nI b))]) hx hb dX12_brokenOf_33 hl (k := 3) rfl (show nI kv + 1 = nI (kv + 1) from nI_1 kv) (by decide) rfl (fun ls hl => ?_)
        refine lv_goto (tgt := 6) hx hb dX12_brokenOf_36 (by decide) ?_
        exact ih (kv + 1) x_7 _ _ _ (by omega) (by omega) (hP.sub [0, 1] rfl) (hD.sub [0, 1] (by decide) rfl) hS (lv_sub hl [2, 3, 1, 0] rfl)
      · refine lv_iconst (v := 1) hx hb dX12_brokenOf_26 (by decide) ?_
        refine lv_goto (tgt := 31) hx hb dX12_brokenOf_27 (by decide) ?_
        refine lv_iadd hx hb dX12_brokenOf_31 ?_
        refine lv_topi (fun x_8 ex_8 => ?_)
        refine lv_istore_n (lv' := [(2, .int x_8), (0, .ref h0), (1, .int (nI b)), (3, .int (nI kv))]) hx hb dX12_brokenOf_32 rfl hl (by decide) rfl (fun ls hl => ?_)
        refine lv_iinc (v := (nI (kv + 1))) (lv' := [(3, .int (nI (kv + 1))), (2, .int x_8), (0, .ref h0), (1, .int (nI b))]) hx hb dX12_brokenOf_33 hl (k := 3) rfl (show nI kv + 1 = nI (kv + 1) from nI_1 kv) (by decide) rfl (fun ls hl => ?_)
        refine lv_goto (tgt := 6) hx hb dX12_brokenOf_36 (by decide) ?_
        exact ih (kv + 1) x_8 _ _ _ (by omega) (by omega) (hP.sub [0, 1] rfl) (hD.sub [0, 1] (by decide) rfl) hS (lv_sub hl [2, 3, 1, 0] rfl)
set_option maxHeartbeats 4000000 in
set_option maxRecDepth 100000 in
theorem c_X12_brokenOf (l : Launch) (E : vE) (h0 : Nat) (q : Nat → Nat) (i_taped : Int32) (i_size : Int32) (i_sort : Int32) (i_what : Int32) (i_at : Int32) (i_end : Int32) (i_worth : Int32) (i_faultKind : Int32) (i_faultPlace : Int32) (i_got : Int32) (i_worked : Int32) (i_deliveries : Int32) (i_isPlanned : Int32) (i_bestDone : Int32) (i_bestCost : Int32) (b : Nat) (a_lasts : Nat → Int32) (sz : Nat) (hb6 : b < 6) : Met l yX12_brokenOf wsX12_brokenOf ({ frames := 0, cells := 0, slots := 0, locals := 0 }) (pcW E [.ref h0, .int (nI b)] sz [(h0, .inr (12, mG q i_taped i_size i_sort i_what i_at i_end i_worth i_faultKind i_faultPlace i_got i_worked i_deliveries i_isPlanned i_bestDone i_bestCost)), (q 22, .inl (E.2.1 0, 24, .inl a_lasts))]) (va_Qi (fun (r : Int32) (_ : Unit) => True) (fun (_ : Unit) (t : State) => wB E (va_A [(h0, .inr (12, mG q i_taped i_size i_sort i_what i_at i_end i_worth i_faultKind i_faultPlace i_got i_worked i_deliveries i_isPlanned i_bestDone i_bestCost)), (q 22, .inl (E.2.1 0, 24, .inl a_lasts))] sz) [(h0, .inr (12, mG q i_taped i_size i_sort i_what i_at i_end i_worth i_faultKind i_faultPlace i_got i_worked i_deliveries i_isPlanned i_bestDone i_bestCost)), (q 22, .inl (E.2.1 0, 24, .inl a_lasts))] t) (va_A [(h0, .inr (12, mG q i_taped i_size i_sort i_what i_at i_end i_worth i_faultKind i_faultPlace i_got i_worked i_deliveries i_isPlanned i_bestDone i_bestCost)), (q 22, .inl (E.2.1 0, 24, .inl a_lasts))] sz)) 0 0 (va_A [(h0, .inr (12, mG q i_taped i_size i_sort i_what i_at i_end i_worth i_faultKind i_faultPlace i_got i_worked i_deliveries i_isPlanned i_bestDone i_bestCost)), (q 22, .inl (E.2.1 0, 24, .inl a_lasts))] sz) := by
  refine Met.ofW (cc := cX12_brokenOf) (maxL := 4) (ret := (some .int)) (by decide) rfl ?_
  intro p e s m args below meth c s₁ B hml hv
  obtain ⟨rfl, hsz, hP, hkn, hD0, hst⟩ := hv
  have hx := B.exec
  have hb := B.bytes
  have hr := B.returns
  have hts := atoms_spec (ws := wsX12_brokenOf) B.pre
  have hown : s.vm.findClass RX12 = some m.cls := findClass_of_methodNamed B.named
  have hlocks := B.notSynchronized
  subst hsz
  have hD := hD0.self (sz := s.heap.size)
  have hK := hkn.1
  have hAO := hkn.2.2.1
  generalize hAe : va_A [(h0, .inr (12, mG q i_taped i_size i_sort i_what i_at i_end i_worth i_faultKind i_faultPlace i_got i_worked i_deliveries i_isPlanned i_bestDone i_bestCost)), (q 22, .inl (E.2.1 0, 24, .inl a_lasts))] s.heap.size = A at hD hst ⊢
  have hA : ∀ q : Nat, s.heap.size ≤ q → A q := fun q h => by rw [← hAe]; exact Or.inr h
  have hS : va_S A s.heap s.heap [] := va_S.rf
  have hP : va_P E.1 vwCl [(h0, .inr (12, mG q i_taped i_size i_sort i_what i_at i_end i_worth i_faultKind i_faultPlace i_got i_worked i_deliveries i_isPlanned i_bestDone i_bestCost)), (q 22, .inl (E.2.1 0, 24, .inl a_lasts))] s.heap := hP
  have hl := lv_entry ([.ref h0, .int (nI b)]) (n := 4) (Nat.le_of_ble_eq_true rfl)
  rw [lg_entry_eq]
  generalize (lg_sl ([.ref h0, .int (nI b)]) ++ List.replicate (4 - (lg_sl ([.ref h0, .int (nI b)])).length) Slot.unset).toArray = ls at hl ⊢
  have hl : lv_has ls 4 [(0, .ref h0), (1, .int (nI b))] := hl
  have fl51 := hts (.fieldLink RX12 51 "BoatsHomeModel" "lasts" "[I") (by first | exact List.mem_of_getElem? (i := 1) rfl | decide +kernel)
  have inX12 : ∀ w ∈ u_ws RX12 TX12 59, w ∈ wsX12_brokenOf := by first | exact fun w h9 => (List.mem_cons_of_mem _ (List.mem_append_right _ h9)) | decide +kernel
  refine lv_iconst (v := 0) hx hb dX12_brokenOf_0 (by decide) ?_
  refine lv_istore_n (lv' := [(2, .int 0), (0, .ref h0), (1, .int (nI b))]) hx hb dX12_brokenOf_1 rfl hl (by decide) rfl (fun ls hl => ?_)
  refine lv_iconst (v := 4) hx hb dX12_brokenOf_2 (by decide) ?_
  refine lv_iload_n hx hb dX12_brokenOf_3 rfl (lv_at hl 2 rfl) ?_
  refine lv_imul hx hb dX12_brokenOf_4 ?_
  refine lv_topi (fun x_1 ex_1 => ?_)
  obtain rfl : x_1 = nI (4 * b) := ex_1.trans (pk_mul 4 b)
  refine lv_istore_n (lv' := [(3, .int (nI (4 * b))), (2, .int 0), (0, .ref h0), (1, .int (nI b))]) hx hb dX12_brokenOf_5 rfl hl (by decide) rfl (fun ls hl => ?_)
  have hPl := hP.sub (ws' := [(h0, .inr (12, mG q i_taped i_size i_sort i_what i_at i_end i_worth i_faultKind i_faultPlace i_got i_worked i_deliveries i_isPlanned i_bestDone i_bestCost)), (q 22, .inl (E.2.1 0, 24, .inl a_lasts))]) [0, 1] rfl
  have hDl := hD.sub (ws' := [(h0, .inr (12, mG q i_taped i_size i_sort i_what i_at i_end i_worth i_faultKind i_faultPlace i_got i_worked i_deliveries i_isPlanned i_bestDone i_bestCost)), (q 22, .inl (E.2.1 0, 24, .inl a_lasts))]) [0, 1] (by decide) rfl
  refine lm_broken E h0 q i_taped i_size i_sort i_what i_at i_end i_worth i_faultKind i_faultPlace i_got i_worked i_deliveries i_isPlanned i_bestDone i_bestCost b a_lasts hx hb hml hown hts hkn hst hA (by omega) (fun n_2 H locs ls  hP hD hS hl => ?_) 5 (4 * b) 0 _ _ _ (by omega) (by omega) hPl hDl hS (lv_sub hl [2, 3, 1, 0] rfl)
  have hP : va_P E.1 vwCl [(h0, .inr (12, mG q i_taped i_size i_sort i_what i_at i_end i_worth i_faultKind i_faultPlace i_got i_worked i_deliveries i_isPlanned i_bestDone i_bestCost)), (q 22, .inl (E.2.1 0, 24, .inl a_lasts))] H := hP
  have hD : va_D A [(h0, .inr (12, mG q i_taped i_size i_sort i_what i_at i_end i_worth i_faultKind i_faultPlace i_got i_worked i_deliveries i_isPlanned i_bestDone i_bestCost)), (q 22, .inl (E.2.1 0, 24, .inl a_lasts))] := hD
  refine lv_iload_n hx hb dX12_brokenOf_39 rfl (lv_at hl 1 rfl) ?_
  have hP9 := hP.sub (ws' := [(h0, .inr (12, mG q i_taped i_size i_sort i_what i_at i_end i_worth i_faultKind i_faultPlace i_got i_worked i_deliveries i_isPlanned i_bestDone i_bestCost)), (q 22, .inl (E.2.1 0, 24, .inl a_lasts))]) [0, 1] rfl
  have hD9 := hD.sub (ws' := [(h0, .inr (12, mG q i_taped i_size i_sort i_what i_at i_end i_worth i_faultKind i_faultPlace i_got i_worked i_deliveries i_isPlanned i_bestDone i_bestCost)), (q 22, .inl (E.2.1 0, 24, .inl a_lasts))]) [0, 1] (by decide) rfl
  exact W.iret (v := n_2) hx hb hr (fun t ht hW => ⟨⟨n_2, (), rfl, trivial, by rw [ht]; exact hP9, hD9⟩, hS.F ht⟩) hS.2.2 dX12_brokenOf_40
set_option maxHeartbeats 4000000 in
set_option maxRecDepth 100000 in
theorem lm_acts {p : Program} {l : Launch} {e : Env} {s : State} {m : MethodId} {args : Array Value} {below : List Frame} {meth : Method} {c : Code} {Q : State → Prop} {A : Nat → Prop} (E : vE) (h0 : Nat) (q : Nat → Nat) (i_taped : Int32) (i_size : Int32) (i_sort : Int32) (i_what : Int32) (i_at : Int32) (i_end : Int32) (i_worth : Int32) (i_faultKind : Int32) (i_faultPlace : Int32) (i_got : Int32) (i_deliveries : Int32) (i_isPlanned : Int32) (i_bestDone : Int32) (i_bestCost : Int32) (wk9 : Nat) (b : Nat) (fo : Int32) (a_rules : Nat → Int32) (a_ruleMany : Nat → Int32) (a_litres : Nat → Int32) (a_watches : Nat → Int32) (a_lasts : Nat → Int32) (hx : p.tables.exec = Jvm.exec) (hb : c.code = cX12_acts) (hml : c.maxLocals = 5) (hown : s.vm.findClass RX12 = some m.cls) (hts : ∀ w ∈ wsX12_acts, w.before args s = true) (hkn : kn E s) (hst : st E A s s.heap) (hA : ∀ q : Nat, s.heap.size ≤ q → A q) (hb6 : b < 6) (hwk : wk9 ≤ 2000) (hI_ruleMany : ∀ k : Nat, k < 7 → inR (a_ruleMany k) 0 12 = true) (hI_watches : ∀ k : Nat, k < 6 → inR (a_watches k) 0 (nI wk9) = true) (kk : ∀ (H : Heap) (locs : List Loc) (ls : Array Slot), va_P E.1 vwCl [(h0, .inr (12, mG q i_taped i_size i_sort i_what i_at i_end i_worth i_faultKind i_faultPlace i_got (nI wk9) i_deliveries i_isPlanned i_bestDone i_bestCost)), (q 10, .inl (E.2.1 0, 336, .inl a_rules)), (q 11, .inl (E.2.1 0, 7, .inl a_ruleMany)), (q 21, .inl (E.2.1 0, 6, .inl a_litres)), (q 32, .inl (E.2.1 0, 6, .inl a_watches)), (q 22, .inl (E.2.1 0, 24, .inl a_lasts))] H → va_D A [(h0, .inr (12, mG q i_taped i_size i_sort i_what i_at i_end i_worth i_faultKind i_faultPlace i_got (nI wk9) i_deliveries i_isPlanned i_bestDone i_bestCost)), (q 10, .inl (E.2.1 0, 336, .inl a_rules)), (q 11, .inl (E.2.1 0, 7, .inl a_ruleMany)), (q 21, .inl (E.2.1 0, 6, .inl a_litres)), (q 32, .inl (E.2.1 0, 6, .inl a_watches)), (q 22, .inl (E.2.1 0, 24, .inl a_lasts))] → va_S A s.heap H locs → lv_has ls 5 [(0, .ref h0)] → W p l e ({ frames := 1, cells := 0, slots := 0, locals := 23 }) s m args below meth c H locs 0 0 Q (F0 m 137 ls [])) (kk2 : ∀ (rv : Nat) (H : Heap) (locs : List Loc) (ls : Array Slot), (rv < 288) → va_P E.1 vwCl [(h0, .inr (12, mG q i_taped i_size i_sort i_what i_at i_end i_worth i_faultKind i_faultPlace i_got (nI wk9) i_deliveries i_isPlanned i_bestDone i_bestCost)), (q 10, .inl (E.2.1 0, 336, .inl a_rules)), (q 11, .inl (E.2.1 0, 7, .inl a_ruleMany)), (q 21, .inl (E.2.1 0, 6, .inl a_litres)), (q 32, .inl (E.2.1 0, 6, .inl a_watches)), (q 22, .inl (E.2.1 0, 24, .inl a_lasts))] H → va_D A [(h0, .inr (12, mG q i_taped i_size i_sort i_what i_at i_end i_worth i_faultKind i_faultPlace i_got (nI wk9) i_deliveries i_isPlanned i_bestDone i_bestCost)), (q 10, .inl (E.2.1 0, 336, .inl a_rules)), (q 11, .inl (E.2.1 0, 7, .inl a_ruleMany)), (q 21, .inl (E.2.1 0, 6, .inl a_litres)), (q 32, .inl (E.2.1 0, 6, .inl a_watches)), (q 22, .inl (E.2.1 0, 24, .inl a_lasts))] → va_S A s.heap H locs → lv_has ls 5 [(0, .ref h0), (3, .int (nI rv))] → W p l e ({ frames := 1, cells := 0, slots := 0, locals := 23 }) s m args below meth c H locs 0 0 Q (F0 m 122 ls [])) : ∀ (n0 : Nat) (rv : Nat) (H : Heap) (locs : List Loc) (ls : Array Slot), 292 - rv < n0 → (rv ≤ 291) → va_P E.1 vwCl [(h0, .inr (12, mG q i_taped i_size i_sort i_what i_at i_end i_worth i_faultKind i_faultPlace i_got (nI wk9) i_deliveries i_isPlanned i_bestDone i_bestCost)), (q 10, .inl (E.2.1 0, 336, .inl a_rules)), (q 11, .inl (E.2.1 0, 7, .inl a_ruleMany)), (q 21, .inl (E.2.1 0, 6, .inl a_litres)), (q 32, .inl (E.2.1 0, 6, .inl a_watches)), (q 22, .inl (E.2.1 0, 24, .inl a_lasts))] H → va_D A [(h0, .inr (12, mG q i_taped i_size i_sort i_what i_at i_end i_worth i_faultKind i_faultPlace i_got (nI wk9) i_deliveries i_isPlanned i_bestDone i_bestCost)), (q 10, .inl (E.2.1 0, 336, .inl a_rules)), (q 11, .inl (E.2.1 0, 7, .inl a_ruleMany)), (q 21, .inl (E.2.1 0, 6, .inl a_litres)), (q 32, .inl (E.2.1 0, 6, .inl a_watches)), (q 22, .inl (E.2.1 0, 24, .inl a_lasts))] → va_S A s.heap H locs → lv_has ls 5 [(0, .ref h0), (1, .int (nI b)), (2, .int fo), (3, .int (nI rv))] → W p l e ({ frames := 1, cells := 0, slots := 0, locals := 23 }) s m args below meth c H locs 0 0 Q (F0 m 5 ls []) := by
  have hK := hkn.1
  have hAO := hkn.2.2.1
  have fl17 := hts (.fieldLink RX12 17 "BoatsHomeModel" "rules" "[I") (by first | exact List.mem_of_getElem? (i := 2) rfl | decide +kernel)
  have fl21 := hts (.fieldLink RX12 21 "BoatsHomeModel" "ruleMany" "[I") (by first | exact List.mem_of_getElem? (i := 1) rfl | decide +kernel)
  have fl48 := hts (.fieldLink RX12 48 "BoatsHomeModel" "litres" "[I") (by first | exact List.mem_of_getElem? (i := 3) rfl | decide +kernel)
  have fl79 := hts (.fieldLink RX12 79 "BoatsHomeModel" "watches" "[I") (by first | exact List.mem_of_getElem? (i := 4) rfl | decide +kernel)
  have inX12 : ∀ w ∈ u_ws RX12 TX12 59, w ∈ wsX12_acts := by first | exact fun w h9 => (List.mem_cons_of_mem _ (List.mem_append_right _ h9)) | decide +kernel
  intro n0
  induction n0 with
  | zero =>
    intro rv H locs ls hn0
    exact absurd hn0 (Nat.not_lt_zero _)
  | succ n0 ih =>
    intro rv H locs ls hn0 hrv hP hD hS hl
    refine lv_iload_n hx hb dX12_acts_5 rfl (lv_at hl 3 rfl) ?_
    refine lv_iconst (v := 4) hx hb dX12_acts_6 (by decide) ?_
    refine lv_bipush (v := 12) hx hb dX12_acts_7 (by decide) ?_
    refine lv_iload_n hx hb dX12_acts_9 rfl (lv_at hl 1 rfl) ?_
    refine lv_imul hx hb dX12_acts_10 ?_
    refine lv_topi (fun x_1 ex_1 => ?_)
    obtain rfl : x_1 = nI (12 * b) := ex_1.trans (pk_mul 12 b)
    refine lv_aload_n hx hb dX12_acts_11 rfl (lv_at hl 0 rfl) ?_
    refine va_get (D := E.1) (ci := 12) (v := .ref (q 11)) (C := RX12) (T := TX12) (N := 59) hx hb hts inX12 hown hK hP 0 rfl rfl 11 (by decide) fl21 (fun _ h9 => h9) rfl dX12_acts_12 ?_
    refine lv_iload_n hx hb dX12_acts_15 rfl (lv_at hl 1 rfl) ?_
    have hi_2 : vp_in (nI b) 7 := vp_in_nI (by omega) (by decide)
    refine va_iald hx hb hK hP 2 0 rfl rfl hi_2 dX12_acts_16 ?_
    refine lv_topi (fun x_3 ex_3 => ?_)
    have hv_4 : inR x_3 0 12 = true := by rw [ex_3]; exact hI_ruleMany _ (vin_cl hi_2)
    obtain ⟨w_5, hw_6, ew_7⟩ := inR_nI (n := 12) (by decide) hv_4
    subst ew_7
    refine lv_iadd hx hb dX12_acts_17 ?_
    refine lv_topi (fun x_8 ex_8 => ?_)
    obtain rfl : x_8 = nI ((12 * b) + w_5) := ex_8.trans (nI_add (12 * b) w_5)
    refine lv_imul hx hb dX12_acts_18 ?_
    refine lv_topi (fun x_9 ex_9 => ?_)
    obtain rfl : x_9 = nI (4 * ((12 * b) + w_5)) := ex_9.trans (pk_mul 4 ((12 * b) + w_5))
    refine lv_icmp_ge (tgt := 137) hx hb dX12_acts_19 (by decide) (fun c_10 => ?_) (fun c_10 => ?_)
    · exact kk  _ _ _  (hP.sub [0, 1, 2, 3, 4, 5] rfl) (hD.sub [0, 1, 2, 3, 4, 5] (by decide) rfl) hS (lv_sub hl [0] rfl)
    · have hlt : rv < 288 := by have := lt_of_nle (by omega) c_10; omega
      refine lv_aload_n hx hb dX12_acts_22 rfl (lv_at hl 0 rfl) ?_
      refine va_get (D := E.1) (ci := 12) (v := .ref (q 10)) (C := RX12) (T := TX12) (N := 59) hx hb hts inX12 hown hK hP 0 rfl rfl 10 (by decide) fl17 (fun _ h9 => h9) rfl dX12_acts_23 ?_
      refine lv_iload_n hx hb dX12_acts_26 rfl (lv_at hl 3 rfl) ?_
      have hi_11 : vp_in (nI rv) 336 := vp_in_nI (by omega) (by decide)
      refine va_iald hx hb hK hP 1 0 rfl rfl hi_11 dX12_acts_27 ?_
      refine lv_topi (fun x_12 ex_12 => ?_)
      refine lv_if_ne (tgt := 35) hx hb dX12_acts_28 (by decide) (fun c_13 => ?_) (fun c_13 => ?_)
      · refine lv_aload_n hx hb dX12_acts_35 rfl (lv_at hl 0 rfl) ?_
        refine va_get (D := E.1) (ci := 12) (v := .ref (q 10)) (C := RX12) (T := TX12) (N := 59) hx hb hts inX12 hown hK hP 0 rfl rfl 10 (by decide) fl17 (fun _ h9 => h9) rfl dX12_acts_36 ?_
        refine lv_iload_n hx hb dX12_acts_39 rfl (lv_at hl 3 rfl) ?_
        refine va_iald hx hb hK hP 1 0 rfl rfl hi_11 dX12_acts_40 ?_
        refine lv_topi (fun x_14 ex_14 => ?_)
        refine lv_iconst (v := 1) hx hb dX12_acts_41 (by decide) ?_
        refine lv_icmp_ne (tgt := 54) hx hb dX12_acts_42 (by decide) (fun c_15 => ?_) (fun c_15 => ?_)
        · refine lv_aload_n hx hb dX12_acts_54 rfl (lv_at hl 0 rfl) ?_
          refine va_get (D := E.1) (ci := 12) (v := .ref (q 10)) (C := RX12) (T := TX12) (N := 59) hx hb hts inX12 hown hK hP 0 rfl rfl 10 (by decide) fl17 (fun _ h9 => h9) rfl dX12_acts_55 ?_
          refine lv_iload_n hx hb dX12_acts_58 rfl (lv_at hl 3 rfl) ?_
          refine va_iald hx hb hK hP 1 0 rfl rfl hi_11 dX12_acts_59 ?_
          refine lv_topi (fun x_16 ex_16 => ?_)
          refine lv_iconst (v := 2) hx hb dX12_acts_60 (by decide) ?_
          refine lv_icmp_ne (tgt := 75) hx hb dX12_acts_61 (by decide) (fun c_17 => ?_) (fun c_17 => ?_)
          · refine lv_aload_n hx hb dX12_acts_75 rfl (lv_at hl 0 rfl) ?_
            refine lv_iload_n hx hb dX12_acts_76 rfl (lv_at hl 1 rfl) ?_
            have hPc := hP.sub (ws' := [(h0, .inr (12, mG q i_taped i_size i_sort i_what i_at i_end i_worth i_faultKind i_faultPlace i_got (nI wk9) i_deliveries i_isPlanned i_bestDone i_bestCost)), (q 22, .inl (E.2.1 0, 24, .inl a_lasts))]) [0, 5] rfl
            have hDc := hD.sub (ws' := [(h0, .inr (12, mG q i_taped i_size i_sort i_what i_at i_end i_worth i_faultKind i_faultPlace i_got (nI wk9) i_deliveries i_isPlanned i_bestDone i_bestCost)), (q 22, .inl (E.2.1 0, 24, .inl a_lasts))]) [0, 5] (by decide) rfl
            have hFc := va_free (wc := [(h0, .inr (12, mG q i_taped i_size i_sort i_what i_at i_end i_worth i_faultKind i_faultPlace i_got (nI wk9) i_deliveries i_isPlanned i_bestDone i_bestCost)), (q 22, .inl (E.2.1 0, 24, .inl a_lasts))]) hD hS hA [0, 5] rfl
            refine va_calli (va_runV (As := [.int (nI b)]) (rest := []) ⟨hx, hb, hml, hown, hts⟩ (c_X12_brokenOf l E h0 q i_taped i_size i_sort i_what i_at i_end i_worth i_faultKind i_faultPlace i_got (nI wk9) i_deliveries i_isPlanned i_bestDone i_bestCost b a_lasts H.size (by omega)) (cwV 1 hts gX12_acts_X12_brokenOf rfl rfl rfl hdV_X12_brokenOf ⟨Nat.le_of_ble_eq_true rfl, Nat.le_of_ble_eq_true rfl⟩) ⟨pcW_blind, va_recv hK hPc (ci := 12) (q0 := 0) rfl rfl, (pcW_pre hPc hkn hDc hst hS hFc)⟩ rfl rfl hl.1 rfl (lv_room (Nat.le_of_ble_eq_true rfl)) dX12_acts_77 ⟨Nat.le_of_ble_eq_true rfl, Nat.le_of_ble_eq_true rfl⟩) hS (fun q _ h => hFc q h) hFc (fun r_18 u t H1 locs ht hvm hw_19 hB hz1 hk1 hS => ?_)
            obtain ⟨hP1, hD1⟩ := hB
            rw [ht] at hP1
            try dsimp only at hw_19
            obtain ⟨hP, hD⟩ := va_join (wr := [(q 10, .inl (E.2.1 0, 336, .inl a_rules)), (q 11, .inl (E.2.1 0, 7, .inl a_ruleMany)), (q 21, .inl (E.2.1 0, 6, .inl a_litres)), (q 32, .inl (E.2.1 0, 6, .inl a_watches))]) (w1 := [(h0, .inr (12, mG q i_taped i_size i_sort i_what i_at i_end i_worth i_faultKind i_faultPlace i_got (nI wk9) i_deliveries i_isPlanned i_bestDone i_bestCost)), (q 22, .inl (E.2.1 0, 24, .inl a_lasts))]) hP hD [0, 5] [1, 2, 3, 4] rfl rfl (by decide) (by decide) hk1 hFc hP1 hD1
            generalize H1 = H at hP hS ⊢
            have hP : va_P E.1 vwCl [(q 10, .inl (E.2.1 0, 336, .inl a_rules)), (q 11, .inl (E.2.1 0, 7, .inl a_ruleMany)), (q 21, .inl (E.2.1 0, 6, .inl a_litres)), (q 32, .inl (E.2.1 0, 6, .inl a_watches)), (h0, .inr (12, mG q i_taped i_size i_sort i_what i_at i_end i_worth i_faultKind i_faultPlace i_got (nI wk9) i_deliveries i_isPlanned i_bestDone i_bestCost)), (q 22, .inl (E.2.1 0, 24, .inl a_lasts))] H := hP
            have hD : va_D A [(q 10, .inl (E.2.1 0, 336, .inl a_rules)), (q 11, .inl (E.2.1 0, 7, .inl a_ruleMany)), (q 21, .inl (E.2.1 0, 6, .inl a_litres)), (q 32, .inl (E.2.1 0, 6, .inl a_watches)), (h0, .inr (12, mG q i_taped i_size i_sort i_what i_at i_end i_worth i_faultKind i_faultPlace i_got (nI wk9) i_deliveries i_isPlanned i_bestDone i_bestCost)), (q 22, .inl (E.2.1 0, 24, .inl a_lasts))] := hD
            refine lv_istore (lv' := [(4, .int r_18), (0, .ref h0), (1, .int (nI b)), (2, .int fo), (3, .int (nI rv))]) hx hb dX12_acts_80 hl (by decide) rfl (fun ls hl => ?_)
            refine lv_aload_n hx hb dX12_acts_82 rfl (lv_at hl 1 rfl) ?_
            refine va_get (D := E.1) (ci := 12) (v := .ref (q 10)) (C := RX12) (T := TX12) (N := 59) hx hb hts inX12 hown hK hP 4 rfl rfl 10 (by decide) fl17 (fun _ h9 => h9) rfl dX12_acts_83 ?_
            refine lv_iload_n hx hb dX12_acts_86 rfl (lv_at hl 4 rfl) ?_
            refine lv_iconst (v := 1) hx hb dX12_acts_87 (by decide) ?_
            refine lv_iadd hx hb dX12_acts_88 ?_
            refine lv_topi (fun x_20 ex_20 => ?_)
            obtain rfl : x_20 = nI (rv + 1) := ex_20.trans (nI_1 _)
            have hi_21 : vp_in (nI (rv + 1)) 336 := vp_in_nI (by omega) (by decide)
            refine va_iald hx hb hK hP 0 0 rfl rfl hi_21 dX12_acts_89 ?_
            refine lv_topi (fun x_22 ex_22 => ?_)
            refine lv_if_ne (tgt := 109) hx hb dX12_acts_90 (by decide) (fun c_23 => ?_) (fun c_23 => ?_)
            · refine lv_iload hx hb dX12_acts_109 (lv_at hl 0 rfl) ?_
              refine lv_aload_n hx hb dX12_acts_111 rfl (lv_at hl 1 rfl) ?_
              refine va_get (D := E.1) (ci := 12) (v := .ref (q 10)) (C := RX12) (T := TX12) (N := 59) hx hb hts inX12 hown hK hP 4 rfl rfl 10 (by decide) fl17 (fun _ h9 => h9) rfl dX12_acts_112 ?_
              refine lv_iload_n hx hb dX12_acts_115 rfl (lv_at hl 4 rfl) ?_
              refine lv_iconst (v := 2) hx hb dX12_acts_116 (by decide) ?_
              refine lv_iadd hx hb dX12_acts_117 ?_
              refine lv_topi (fun x_24 ex_24 => ?_)
              obtain rfl : x_24 = nI (rv + 2) := ex_24.trans (nI_add rv 2)
              have hi_25 : vp_in (nI (rv + 2)) 336 := vp_in_nI (by omega) (by decide)
              refine va_iald hx hb hK hP 0 0 rfl rfl hi_25 dX12_acts_118 ?_
              refine lv_topi (fun x_26 ex_26 => ?_)
              refine lv_icmp_ge (tgt := 131) hx hb dX12_acts_119 (by decide) (fun c_27 => ?_) (fun c_27 => ?_)
              · refine lv_iinc (v := (nI (rv + 4))) (lv' := [(3, .int (nI (rv + 4))), (4, .int r_18), (0, .ref h0), (1, .int (nI b)), (2, .int fo)]) hx hb dX12_acts_131 hl (k := 4) rfl (show nI rv + 4 = nI (rv + 4) from nI_add rv 4) (by decide) rfl (fun ls hl => ?_)
                refine lv_goto (tgt := 5) hx hb dX12_acts_134 (by decide) ?_
                exact ih (rv + 4) _ _ _ (by omega) (by omega) (hP.sub [4, 0, 1, 2, 3, 5] rfl) (hD.sub [4, 0, 1, 2, 3, 5] (by decide) rfl) hS (lv_sub hl [2, 3, 4, 0] rfl)
              · exact kk2 rv _ _ _ hlt (hP.sub [4, 0, 1, 2, 3, 5] rfl) (hD.sub [4, 0, 1, 2, 3, 5] (by decide) rfl) hS (lv_sub hl [1, 4] rfl)
            · refine lv_iload hx hb dX12_acts_93 (lv_at hl 0 rfl) ?_
              refine lv_aload_n hx hb dX12_acts_95 rfl (lv_at hl 1 rfl) ?_
              refine va_get (D := E.1) (ci := 12) (v := .ref (q 10)) (C := RX12) (T := TX12) (N := 59) hx hb hts inX12 hown hK hP 4 rfl rfl 10 (by decide) fl17 (fun _ h9 => h9) rfl dX12_acts_96 ?_
              refine lv_iload_n hx hb dX12_acts_99 rfl (lv_at hl 4 rfl) ?_
              refine lv_iconst (v := 2) hx hb dX12_acts_100 (by decide) ?_
              refine lv_iadd hx hb dX12_acts_101 ?_
              refine lv_topi (fun x_28 ex_28 => ?_)
              obtain rfl : x_28 = nI (rv + 2) := ex_28.trans (nI_add rv 2)
              have hi_29 : vp_in (nI (rv + 2)) 336 := vp_in_nI (by omega) (by decide)
              refine va_iald hx hb hK hP 0 0 rfl rfl hi_29 dX12_acts_102 ?_
              refine lv_topi (fun x_30 ex_30 => ?_)
              refine lv_icmp_le (tgt := 131) hx hb dX12_acts_103 (by decide) (fun c_31 => ?_) (fun c_31 => ?_)
              · refine lv_iinc (v := (nI (rv + 4))) (lv' := [(3, .int (nI (rv + 4))), (4, .int r_18), (0, .ref h0), (1, .int (nI b)), (2, .int fo)]) hx hb dX12_acts_131 hl (k := 4) rfl (show nI rv + 4 = nI (rv + 4) from nI_add rv 4) (by decide) rfl (fun ls hl => ?_)
                refine lv_goto (tgt := 5) hx hb dX12_acts_134 (by decide) ?_
                exact ih (rv + 4) _ _ _ (by omega) (by omega) (hP.sub [4, 0, 1, 2, 3, 5] rfl) (hD.sub [4, 0, 1, 2, 3, 5] (by decide) rfl) hS (lv_sub hl [2, 3, 4, 0] rfl)
              · refine lv_goto (tgt := 122) hx hb dX12_acts_106 (by decide) ?_
                exact kk2 rv _ _ _ hlt (hP.sub [4, 0, 1, 2, 3, 5] rfl) (hD.sub [4, 0, 1, 2, 3, 5] (by decide) rfl) hS (lv_sub hl [1, 4] rfl)
          · refine lv_aload_n hx hb dX12_acts_64 rfl (lv_at hl 0 rfl) ?_
            refine va_get (D := E.1) (ci := 12) (v := .ref (q 32)) (C := RX12) (T := TX12) (N := 59) hx hb hts inX12 hown hK hP 0 rfl rfl 32 (by decide) fl79 (fun _ h9 => h9) rfl dX12_acts_65 ?_
            refine lv_iload_n hx hb dX12_acts_68 rfl (lv_at hl 1 rfl) ?_
            have hi_32 : vp_in (nI b) 6 := vp_in_nI (by omega) (by decide)
            refine va_iald hx hb hK hP 4 0 rfl rfl hi_32 dX12_acts_69 ?_
            refine lv_topi (fun x_33 ex_33 => ?_)
            have hv_34 : inR x_33 0 (nI wk9) = true := by rw [ex_33]; exact hI_watches _ (vin_cl hi_32)
            obtain ⟨w_35, hw_36, ew_37⟩ := inR_nI (n := wk9) (nI_toInt (by omega)) hv_34
            subst ew_37
            refine lv_iconst (v := 4) hx hb dX12_acts_70 (by decide) ?_
            refine lv_idiv hx hb dX12_acts_71 (by decide) ?_
            refine lv_topi (fun x_38 ex_38 => ?_)
            obtain rfl : x_38 = nI (w_35 / 4) := ex_38.trans (pk_div (a := w_35) (d := 4) (by omega) (by decide) (by decide))
            refine lv_goto (tgt := 80) hx hb dX12_acts_72 (by decide) ?_
            refine lv_istore (lv' := [(4, .int (nI (w_35 / 4))), (0, .ref h0), (1, .int (nI b)), (2, .int fo), (3, .int (nI rv))]) hx hb dX12_acts_80 hl (by decide) rfl (fun ls hl => ?_)
            refine lv_aload_n hx hb dX12_acts_82 rfl (lv_at hl 1 rfl) ?_
            refine va_get (D := E.1) (ci := 12) (v := .ref (q 10)) (C := RX12) (T := TX12) (N := 59) hx hb hts inX12 hown hK hP 0 rfl rfl 10 (by decide) fl17 (fun _ h9 => h9) rfl dX12_acts_83 ?_
            refine lv_iload_n hx hb dX12_acts_86 rfl (lv_at hl 4 rfl) ?_
            refine lv_iconst (v := 1) hx hb dX12_acts_87 (by decide) ?_
            refine lv_iadd hx hb dX12_acts_88 ?_
            refine lv_topi (fun x_39 ex_39 => ?_)
            obtain rfl : x_39 = nI (rv + 1) := ex_39.trans (nI_1 _)
            have hi_40 : vp_in (nI (rv + 1)) 336 := vp_in_nI (by omega) (by decide)
            refine va_iald hx hb hK hP 1 0 rfl rfl hi_40 dX12_acts_89 ?_
            refine lv_topi (fun x_41 ex_41 => ?_)
            refine lv_if_ne (tgt := 109) hx hb dX12_acts_90 (by decide) (fun c_42 => ?_) (fun c_42 => ?_)
            · refine lv_iload hx hb dX12_acts_109 (lv_at hl 0 rfl) ?_
              refine lv_aload_n hx hb dX12_acts_111 rfl (lv_at hl 1 rfl) ?_
              refine va_get (D := E.1) (ci := 12) (v := .ref (q 10)) (C := RX12) (T := TX12) (N := 59) hx hb hts inX12 hown hK hP 0 rfl rfl 10 (by decide) fl17 (fun _ h9 => h9) rfl dX12_acts_112 ?_
              refine lv_iload_n hx hb dX12_acts_115 rfl (lv_at hl 4 rfl) ?_
              refine lv_iconst (v := 2) hx hb dX12_acts_116 (by decide) ?_
              refine lv_iadd hx hb dX12_acts_117 ?_
              refine lv_topi (fun x_43 ex_43 => ?_)
              obtain rfl : x_43 = nI (rv + 2) := ex_43.trans (nI_add rv 2)
              have hi_44 : vp_in (nI (rv + 2)) 336 := vp_in_nI (by omega) (by decide)
              refine va_iald hx hb hK hP 1 0 rfl rfl hi_44 dX12_acts_118 ?_
              refine lv_topi (fun x_45 ex_45 => ?_)
              refine lv_icmp_ge (tgt := 131) hx hb dX12_acts_119 (by decide) (fun c_46 => ?_) (fun c_46 => ?_)
              · refine lv_iinc (v := (nI (rv + 4))) (lv' := [(3, .int (nI (rv + 4))), (4, .int (nI (w_35 / 4))), (0, .ref h0), (1, .int (nI b)), (2, .int fo)]) hx hb dX12_acts_131 hl (k := 4) rfl (show nI rv + 4 = nI (rv + 4) from nI_add rv 4) (by decide) rfl (fun ls hl => ?_)
                refine lv_goto (tgt := 5) hx hb dX12_acts_134 (by decide) ?_
                exact ih (rv + 4) _ _ _ (by omega) (by omega) (hP.sub [0, 1, 2, 3, 4, 5] rfl) (hD.sub [0, 1, 2, 3, 4, 5] (by decide) rfl) hS (lv_sub hl [2, 3, 4, 0] rfl)
              · exact kk2 rv _ _ _ hlt (hP.sub [0, 1, 2, 3, 4, 5] rfl) (hD.sub [0, 1, 2, 3, 4, 5] (by decide) rfl) hS (lv_sub hl [1, 4] rfl)
            · refine lv_iload hx hb dX12_acts_93 (lv_at hl 0 rfl) ?_
              refine lv_aload_n hx hb dX12_acts_95 rfl (lv_at hl 1 rfl) ?_
              refine va_get (D := E.1) (ci := 12) (v := .ref (q 10)) (C := RX12) (T := TX12) (N := 59) hx hb hts inX12 hown hK hP 0 rfl rfl 10 (by decide) fl17 (fun _ h9 => h9) rfl dX12_acts_96 ?_
              refine lv_iload_n hx hb dX12_acts_99 rfl (lv_at hl 4 rfl) ?_
              refine lv_iconst (v := 2) hx hb dX12_acts_100 (by decide) ?_
              refine lv_iadd hx hb dX12_acts_101 ?_
              refine lv_topi (fun x_47 ex_47 => ?_)
              obtain rfl : x_47 = nI (rv + 2) := ex_47.trans (nI_add rv 2)
              have hi_48 : vp_in (nI (rv + 2)) 336 := vp_in_nI (by omega) (by decide)
              refine va_iald hx hb hK hP 1 0 rfl rfl hi_48 dX12_acts_102 ?_
              refine lv_topi (fun x_49 ex_49 => ?_)
              refine lv_icmp_le (tgt := 131) hx hb dX12_acts_103 (by decide) (fun c_50 => ?_) (fun c_50 => ?_)
              · refine lv_iinc (v := (nI (rv + 4))) (lv' := [(3, .int (nI (rv + 4))), (4, .int (nI (w_35 / 4))), (0, .ref h0), (1, .int (nI b)), (2, .int fo)]) hx hb dX12_acts_131 hl (k := 4) rfl (show nI rv + 4 = nI (rv + 4) from nI_add rv 4) (by decide) rfl (fun ls hl => ?_)
                refine lv_goto (tgt := 5) hx hb dX12_acts_134 (by decide) ?_
                exact ih (rv + 4) _ _ _ (by omega) (by omega) (hP.sub [0, 1, 2, 3, 4, 5] rfl) (hD.sub [0, 1, 2, 3, 4, 5] (by decide) rfl) hS (lv_sub hl [2, 3, 4, 0] rfl)
              · refine lv_goto (tgt := 122) hx hb dX12_acts_106 (by decide) ?_
                exact kk2 rv _ _ _ hlt (hP.sub [0, 1, 2, 3, 4, 5] rfl) (hD.sub [0, 1, 2, 3, 4, 5] (by decide) rfl) hS (lv_sub hl [1, 4] rfl)
        · refine lv_aload_n hx hb dX12_acts_45 rfl (lv_at hl 0 rfl) ?_
          refine va_get (D := E.1) (ci := 12) (v := .ref (q 21)) (C := RX12) (T := TX12) (N := 59) hx hb hts inX12 hown hK hP 0 rfl rfl 21 (by decide) fl48 (fun _ h9 => h9) rfl dX12_acts_46 ?_
          refine lv_iload_n hx hb dX12_acts_49 rfl (lv_at hl 1 rfl) ?_
          have hi_51 : vp_in (nI b) 6 := vp_in_nI (by omega) (by decide)
          refine va_iald hx hb hK hP 3 0 rfl rfl hi_51 dX12_acts_50 ?_
          refine lv_topi (fun x_52 ex_52 => ?_)
          refine lv_goto (tgt := 80) hx hb dX12_acts_51 (by decide) ?_
          refine lv_istore (lv' := [(4, .int x_52), (0, .ref h0), (1, .int (nI b)), (2, .int fo), (3, .int (nI rv))]) hx hb dX12_acts_80 hl (by decide) rfl (fun ls hl => ?_)
          refine lv_aload_n hx hb dX12_acts_82 rfl (lv_at hl 1 rfl) ?_
          refine va_get (D := E.1) (ci := 12) (v := .ref (q 10)) (C := RX12) (T := TX12) (N := 59) hx hb hts inX12 hown hK hP 0 rfl rfl 10 (by decide) fl17 (fun _ h9 => h9) rfl dX12_acts_83 ?_
          refine lv_iload_n hx hb dX12_acts_86 rfl (lv_at hl 4 rfl) ?_
          refine lv_iconst (v := 1) hx hb dX12_acts_87 (by decide) ?_
          refine lv_iadd hx hb dX12_acts_88 ?_
          refine lv_topi (fun x_53 ex_53 => ?_)
          obtain rfl : x_53 = nI (rv + 1) := ex_53.trans (nI_1 _)
          have hi_54 : vp_in (nI (rv + 1)) 336 := vp_in_nI (by omega) (by decide)
          refine va_iald hx hb hK hP 1 0 rfl rfl hi_54 dX12_acts_89 ?_
          refine lv_topi (fun x_55 ex_55 => ?_)
          refine lv_if_ne (tgt := 109) hx hb dX12_acts_90 (by decide) (fun c_56 => ?_) (fun c_56 => ?_)
          · refine lv_iload hx hb dX12_acts_109 (lv_at hl 0 rfl) ?_
            refine lv_aload_n hx hb dX12_acts_111 rfl (lv_at hl 1 rfl) ?_
            refine va_get (D := E.1) (ci := 12) (v := .ref (q 10)) (C := RX12) (T := TX12) (N := 59) hx hb hts inX12 hown hK hP 0 rfl rfl 10 (by decide) fl17 (fun _ h9 => h9) rfl dX12_acts_112 ?_
            refine lv_iload_n hx hb dX12_acts_115 rfl (lv_at hl 4 rfl) ?_
            refine lv_iconst (v := 2) hx hb dX12_acts_116 (by decide) ?_
            refine lv_iadd hx hb dX12_acts_117 ?_
            refine lv_topi (fun x_57 ex_57 => ?_)
            obtain rfl : x_57 = nI (rv + 2) := ex_57.trans (nI_add rv 2)
            have hi_58 : vp_in (nI (rv + 2)) 336 := vp_in_nI (by omega) (by decide)
            refine va_iald hx hb hK hP 1 0 rfl rfl hi_58 dX12_acts_118 ?_
            refine lv_topi (fun x_59 ex_59 => ?_)
            refine lv_icmp_ge (tgt := 131) hx hb dX12_acts_119 (by decide) (fun c_60 => ?_) (fun c_60 => ?_)
            · refine lv_iinc (v := (nI (rv + 4))) (lv' := [(3, .int (nI (rv + 4))), (4, .int x_52), (0, .ref h0), (1, .int (nI b)), (2, .int fo)]) hx hb dX12_acts_131 hl (k := 4) rfl (show nI rv + 4 = nI (rv + 4) from nI_add rv 4) (by decide) rfl (fun ls hl => ?_)
              refine lv_goto (tgt := 5) hx hb dX12_acts_134 (by decide) ?_
              exact ih (rv + 4) _ _ _ (by omega) (by omega) (hP.sub [0, 1, 2, 3, 4, 5] rfl) (hD.sub [0, 1, 2, 3, 4, 5] (by decide) rfl) hS (lv_sub hl [2, 3, 4, 0] rfl)
            · exact kk2 rv _ _ _ hlt (hP.sub [0, 1, 2, 3, 4, 5] rfl) (hD.sub [0, 1, 2, 3, 4, 5] (by decide) rfl) hS (lv_sub hl [1, 4] rfl)
          · refine lv_iload hx hb dX12_acts_93 (lv_at hl 0 rfl) ?_
            refine lv_aload_n hx hb dX12_acts_95 rfl (lv_at hl 1 rfl) ?_
            refine va_get (D := E.1) (ci := 12) (v := .ref (q 10)) (C := RX12) (T := TX12) (N := 59) hx hb hts inX12 hown hK hP 0 rfl rfl 10 (by decide) fl17 (fun _ h9 => h9) rfl dX12_acts_96 ?_
            refine lv_iload_n hx hb dX12_acts_99 rfl (lv_at hl 4 rfl) ?_
            refine lv_iconst (v := 2) hx hb dX12_acts_100 (by decide) ?_
            refine lv_iadd hx hb dX12_acts_101 ?_
            refine lv_topi (fun x_61 ex_61 => ?_)
            obtain rfl : x_61 = nI (rv + 2) := ex_61.trans (nI_add rv 2)
            have hi_62 : vp_in (nI (rv + 2)) 336 := vp_in_nI (by omega) (by decide)
            refine va_iald hx hb hK hP 1 0 rfl rfl hi_62 dX12_acts_102 ?_
            refine lv_topi (fun x_63 ex_63 => ?_)
            refine lv_icmp_le (tgt := 131) hx hb dX12_acts_103 (by decide) (fun c_64 => ?_) (fun c_64 => ?_)
            · refine lv_iinc (v := (nI (rv + 4))) (lv' := [(3, .int (nI (rv + 4))), (4, .int x_52), (0, .ref h0), (1, .int (nI b)), (2, .int fo)]) hx hb dX12_acts_131 hl (k := 4) rfl (show nI rv + 4 = nI (rv + 4) from nI_add rv 4) (by decide) rfl (fun ls hl => ?_)
              refine lv_goto (tgt := 5) hx hb dX12_acts_134 (by decide) ?_
              exact ih (rv + 4) _ _ _ (by omega) (by omega) (hP.sub [0, 1, 2, 3, 4, 5] rfl) (hD.sub [0, 1, 2, 3, 4, 5] (by decide) rfl) hS (lv_sub hl [2, 3, 4, 0] rfl)
            · refine lv_goto (tgt := 122) hx hb dX12_acts_106 (by decide) ?_
              exact kk2 rv _ _ _ hlt (hP.sub [0, 1, 2, 3, 4, 5] rfl) (hD.sub [0, 1, 2, 3, 4, 5] (by decide) rfl) hS (lv_sub hl [1, 4] rfl)
      · refine lv_iload_n hx hb dX12_acts_31 rfl (lv_at hl 2 rfl) ?_
        refine lv_goto (tgt := 80) hx hb dX12_acts_32 (by decide) ?_
        refine lv_istore (lv' := [(4, .int fo), (0, .ref h0), (1, .int (nI b)), (2, .int fo), (3, .int (nI rv))]) hx hb dX12_acts_80 hl (by decide) rfl (fun ls hl => ?_)
        refine lv_aload_n hx hb dX12_acts_82 rfl (lv_at hl 1 rfl) ?_
        refine va_get (D := E.1) (ci := 12) (v := .ref (q 10)) (C := RX12) (T := TX12) (N := 59) hx hb hts inX12 hown hK hP 0 rfl rfl 10 (by decide) fl17 (fun _ h9 => h9) rfl dX12_acts_83 ?_
        refine lv_iload_n hx hb dX12_acts_86 rfl (lv_at hl 4 rfl) ?_
        refine lv_iconst (v := 1) hx hb dX12_acts_87 (by decide) ?_
        refine lv_iadd hx hb dX12_acts_88 ?_
        refine lv_topi (fun x_65 ex_65 => ?_)
        obtain rfl : x_65 = nI (rv + 1) := ex_65.trans (nI_1 _)
        have hi_66 : vp_in (nI (rv + 1)) 336 := vp_in_nI (by omega) (by decide)
        refine va_iald hx hb hK hP 1 0 rfl rfl hi_66 dX12_acts_89 ?_
        refine lv_topi (fun x_67 ex_67 => ?_)
        refine lv_if_ne (tgt := 109) hx hb dX12_acts_90 (by decide) (fun c_68 => ?_) (fun c_68 => ?_)
        · refine lv_iload hx hb dX12_acts_109 (lv_at hl 0 rfl) ?_
          refine lv_aload_n hx hb dX12_acts_111 rfl (lv_at hl 1 rfl) ?_
          refine va_get (D := E.1) (ci := 12) (v := .ref (q 10)) (C := RX12) (T := TX12) (N := 59) hx hb hts inX12 hown hK hP 0 rfl rfl 10 (by decide) fl17 (fun _ h9 => h9) rfl dX12_acts_112 ?_
          refine lv_iload_n hx hb dX12_acts_115 rfl (lv_at hl 4 rfl) ?_
          refine lv_iconst (v := 2) hx hb dX12_acts_116 (by decide) ?_
          refine lv_iadd hx hb dX12_acts_117 ?_
          refine lv_topi (fun x_69 ex_69 => ?_)
          obtain rfl : x_69 = nI (rv + 2) := ex_69.trans (nI_add rv 2)
          have hi_70 : vp_in (nI (rv + 2)) 336 := vp_in_nI (by omega) (by decide)
          refine va_iald hx hb hK hP 1 0 rfl rfl hi_70 dX12_acts_118 ?_
          refine lv_topi (fun x_71 ex_71 => ?_)
          refine lv_icmp_ge (tgt := 131) hx hb dX12_acts_119 (by decide) (fun c_72 => ?_) (fun c_72 => ?_)
          · refine lv_iinc (v := (nI (rv + 4))) (lv' := [(3, .int (nI (rv + 4))), (4, .int fo), (0, .ref h0), (1, .int (nI b)), (2, .int fo)]) hx hb dX12_acts_131 hl (k := 4) rfl (show nI rv + 4 = nI (rv + 4) from nI_add rv 4) (by decide) rfl (fun ls hl => ?_)
            refine lv_goto (tgt := 5) hx hb dX12_acts_134 (by decide) ?_
            exact ih (rv + 4) _ _ _ (by omega) (by omega) (hP.sub [0, 1, 2, 3, 4, 5] rfl) (hD.sub [0, 1, 2, 3, 4, 5] (by decide) rfl) hS (lv_sub hl [2, 3, 4, 0] rfl)
          · exact kk2 rv _ _ _ hlt (hP.sub [0, 1, 2, 3, 4, 5] rfl) (hD.sub [0, 1, 2, 3, 4, 5] (by decide) rfl) hS (lv_sub hl [1, 4] rfl)
        · refine lv_iload hx hb dX12_acts_93 (lv_at hl 0 rfl) ?_
          refine lv_aload_n hx hb dX12_acts_95 rfl (lv_at hl 1 rfl) ?_
          refine va_get (D := E.1) (ci := 12) (v := .ref (q 10)) (C := RX12) (T := TX12) (N := 59) hx hb hts inX12 hown hK hP 0 rfl rfl 10 (by decide) fl17 (fun _ h9 => h9) rfl dX12_acts_96 ?_
          refine lv_iload_n hx hb dX12_acts_99 rfl (lv_at hl 4 rfl) ?_
          refine lv_iconst (v := 2) hx hb dX12_acts_100 (by decide) ?_
          refine lv_iadd hx hb dX12_acts_101 ?_
          refine lv_topi (fun x_73 ex_73 => ?_)
          obtain rfl : x_73 = nI (rv + 2) := ex_73.trans (nI_add rv 2)
          have hi_74 : vp_in (nI (rv + 2)) 336 := vp_in_nI (by omega) (by decide)
          refine va_iald hx hb hK hP 1 0 rfl rfl hi_74 dX12_acts_102 ?_
          refine lv_topi (fun x_75 ex_75 => ?_)
          refine lv_icmp_le (tgt := 131) hx hb dX12_acts_103 (by decide) (fun c_76 => ?_) (fun c_76 => ?_)
          · refine lv_iinc (v := (nI (rv + 4))) (lv' := [(3, .int (nI (rv + 4))), (4, .int fo), (0, .ref h0), (1, .int (nI b)), (2, .int fo)]) hx hb dX12_acts_131 hl (k := 4) rfl (show nI rv + 4 = nI (rv + 4) from nI_add rv 4) (by decide) rfl (fun ls hl => ?_)
            refine lv_goto (tgt := 5) hx hb dX12_acts_134 (by decide) ?_
            exact ih (rv + 4) _ _ _ (by omega) (by omega) (hP.sub [0, 1, 2, 3, 4, 5] rfl) (hD.sub [0, 1, 2, 3, 4, 5] (by decide) rfl) hS (lv_sub hl [2, 3, 4, 0] rfl)
          · refine lv_goto (tgt := 122) hx hb dX12_acts_106 (by decide) ?_
            exact kk2 rv _ _ _ hlt (hP.sub [0, 1, 2, 3, 4, 5] rfl) (hD.sub [0, 1, 2, 3, 4, 5] (by decide) rfl) hS (lv_sub hl [1, 4] rfl)
set_option maxHeartbeats 4000000 in
set_option maxRecDepth 100000 in
theorem c_X12_acts (l : Launch) (E : vE) (h0 : Nat) (q : Nat → Nat) (i_taped : Int32) (i_size : Int32) (i_sort : Int32) (i_what : Int32) (i_at : Int32) (i_end : Int32) (i_worth : Int32) (i_faultKind : Int32) (i_faultPlace : Int32) (i_got : Int32) (i_deliveries : Int32) (i_isPlanned : Int32) (i_bestDone : Int32) (i_bestCost : Int32) (wk9 : Nat) (b : Nat) (a_rules : Nat → Int32) (a_ruleMany : Nat → Int32) (a_litres : Nat → Int32) (a_watches : Nat → Int32) (a_lasts : Nat → Int32) (fo : Int32) (sz : Nat) (hb6 : b < 6) (hwk : wk9 ≤ 2000) (hI_ruleMany : ∀ k : Nat, k < 7 → inR (a_ruleMany k) 0 12 = true) (hI_watches : ∀ k : Nat, k < 6 → inR (a_watches k) 0 (nI wk9) = true) : Met l yX12_acts wsX12_acts ({ frames := 1, cells := 0, slots := 0, locals := 23 }) (pcW E [.ref h0, .int (nI b), .int fo] sz [(h0, .inr (12, mG q i_taped i_size i_sort i_what i_at i_end i_worth i_faultKind i_faultPlace i_got (nI wk9) i_deliveries i_isPlanned i_bestDone i_bestCost)), (q 10, .inl (E.2.1 0, 336, .inl a_rules)), (q 11, .inl (E.2.1 0, 7, .inl a_ruleMany)), (q 21, .inl (E.2.1 0, 6, .inl a_litres)), (q 32, .inl (E.2.1 0, 6, .inl a_watches)), (q 22, .inl (E.2.1 0, 24, .inl a_lasts))]) (va_Qi (fun (r : Int32) (_ : Unit) => True) (fun (_ : Unit) (t : State) => wB E (va_A [(h0, .inr (12, mG q i_taped i_size i_sort i_what i_at i_end i_worth i_faultKind i_faultPlace i_got (nI wk9) i_deliveries i_isPlanned i_bestDone i_bestCost)), (q 10, .inl (E.2.1 0, 336, .inl a_rules)), (q 11, .inl (E.2.1 0, 7, .inl a_ruleMany)), (q 21, .inl (E.2.1 0, 6, .inl a_litres)), (q 32, .inl (E.2.1 0, 6, .inl a_watches)), (q 22, .inl (E.2.1 0, 24, .inl a_lasts))] sz) [(h0, .inr (12, mG q i_taped i_size i_sort i_what i_at i_end i_worth i_faultKind i_faultPlace i_got (nI wk9) i_deliveries i_isPlanned i_bestDone i_bestCost)), (q 10, .inl (E.2.1 0, 336, .inl a_rules)), (q 11, .inl (E.2.1 0, 7, .inl a_ruleMany)), (q 21, .inl (E.2.1 0, 6, .inl a_litres)), (q 32, .inl (E.2.1 0, 6, .inl a_watches)), (q 22, .inl (E.2.1 0, 24, .inl a_lasts))] t) (va_A [(h0, .inr (12, mG q i_taped i_size i_sort i_what i_at i_end i_worth i_faultKind i_faultPlace i_got (nI wk9) i_deliveries i_isPlanned i_bestDone i_bestCost)), (q 10, .inl (E.2.1 0, 336, .inl a_rules)), (q 11, .inl (E.2.1 0, 7, .inl a_ruleMany)), (q 21, .inl (E.2.1 0, 6, .inl a_litres)), (q 32, .inl (E.2.1 0, 6, .inl a_watches)), (q 22, .inl (E.2.1 0, 24, .inl a_lasts))] sz)) 0 0 (va_A [(h0, .inr (12, mG q i_taped i_size i_sort i_what i_at i_end i_worth i_faultKind i_faultPlace i_got (nI wk9) i_deliveries i_isPlanned i_bestDone i_bestCost)), (q 10, .inl (E.2.1 0, 336, .inl a_rules)), (q 11, .inl (E.2.1 0, 7, .inl a_ruleMany)), (q 21, .inl (E.2.1 0, 6, .inl a_litres)), (q 32, .inl (E.2.1 0, 6, .inl a_watches)), (q 22, .inl (E.2.1 0, 24, .inl a_lasts))] sz) := by
  refine Met.ofW (cc := cX12_acts) (maxL := 5) (ret := (some .int)) (by decide) rfl ?_
  intro p e s m args below meth c s₁ B hml hv
  obtain ⟨rfl, hsz, hP, hkn, hD0, hst⟩ := hv
  have hx := B.exec
  have hb := B.bytes
  have hr := B.returns
  have hts := atoms_spec (ws := wsX12_acts) B.pre
  have hown : s.vm.findClass RX12 = some m.cls := findClass_of_methodNamed B.named
  have hlocks := B.notSynchronized
  subst hsz
  have hD := hD0.self (sz := s.heap.size)
  have hK := hkn.1
  have hAO := hkn.2.2.1
  generalize hAe : va_A [(h0, .inr (12, mG q i_taped i_size i_sort i_what i_at i_end i_worth i_faultKind i_faultPlace i_got (nI wk9) i_deliveries i_isPlanned i_bestDone i_bestCost)), (q 10, .inl (E.2.1 0, 336, .inl a_rules)), (q 11, .inl (E.2.1 0, 7, .inl a_ruleMany)), (q 21, .inl (E.2.1 0, 6, .inl a_litres)), (q 32, .inl (E.2.1 0, 6, .inl a_watches)), (q 22, .inl (E.2.1 0, 24, .inl a_lasts))] s.heap.size = A at hD hst ⊢
  have hA : ∀ q : Nat, s.heap.size ≤ q → A q := fun q h => by rw [← hAe]; exact Or.inr h
  have hS : va_S A s.heap s.heap [] := va_S.rf
  have hP : va_P E.1 vwCl [(h0, .inr (12, mG q i_taped i_size i_sort i_what i_at i_end i_worth i_faultKind i_faultPlace i_got (nI wk9) i_deliveries i_isPlanned i_bestDone i_bestCost)), (q 10, .inl (E.2.1 0, 336, .inl a_rules)), (q 11, .inl (E.2.1 0, 7, .inl a_ruleMany)), (q 21, .inl (E.2.1 0, 6, .inl a_litres)), (q 32, .inl (E.2.1 0, 6, .inl a_watches)), (q 22, .inl (E.2.1 0, 24, .inl a_lasts))] s.heap := hP
  have hl := lv_entry ([.ref h0, .int (nI b), .int fo]) (n := 5) (Nat.le_of_ble_eq_true rfl)
  rw [lg_entry_eq]
  generalize (lg_sl ([.ref h0, .int (nI b), .int fo]) ++ List.replicate (5 - (lg_sl ([.ref h0, .int (nI b), .int fo])).length) Slot.unset).toArray = ls at hl ⊢
  have hl : lv_has ls 5 [(0, .ref h0), (1, .int (nI b)), (2, .int fo)] := hl
  have fl17 := hts (.fieldLink RX12 17 "BoatsHomeModel" "rules" "[I") (by first | exact List.mem_of_getElem? (i := 2) rfl | decide +kernel)
  have fl21 := hts (.fieldLink RX12 21 "BoatsHomeModel" "ruleMany" "[I") (by first | exact List.mem_of_getElem? (i := 1) rfl | decide +kernel)
  have fl48 := hts (.fieldLink RX12 48 "BoatsHomeModel" "litres" "[I") (by first | exact List.mem_of_getElem? (i := 3) rfl | decide +kernel)
  have fl79 := hts (.fieldLink RX12 79 "BoatsHomeModel" "watches" "[I") (by first | exact List.mem_of_getElem? (i := 4) rfl | decide +kernel)
  have inX12 : ∀ w ∈ u_ws RX12 TX12 59, w ∈ wsX12_acts := by first | exact fun w h9 => (List.mem_cons_of_mem _ (List.mem_append_right _ h9)) | decide +kernel
  refine lv_bipush (v := 48) hx hb dX12_acts_0 (by decide) ?_
  refine lv_iload_n hx hb dX12_acts_2 rfl (lv_at hl 1 rfl) ?_
  refine lv_imul hx hb dX12_acts_3 ?_
  refine lv_topi (fun x_1 ex_1 => ?_)
  obtain rfl : x_1 = nI (48 * b) := ex_1.trans (pk_mul 48 b)
  refine lv_istore_n (lv' := [(3, .int (nI (48 * b))), (0, .ref h0), (1, .int (nI b)), (2, .int fo)]) hx hb dX12_acts_4 rfl hl (by decide) rfl (fun ls hl => ?_)
  have hPl := hP.sub (ws' := [(h0, .inr (12, mG q i_taped i_size i_sort i_what i_at i_end i_worth i_faultKind i_faultPlace i_got (nI wk9) i_deliveries i_isPlanned i_bestDone i_bestCost)), (q 10, .inl (E.2.1 0, 336, .inl a_rules)), (q 11, .inl (E.2.1 0, 7, .inl a_ruleMany)), (q 21, .inl (E.2.1 0, 6, .inl a_litres)), (q 32, .inl (E.2.1 0, 6, .inl a_watches)), (q 22, .inl (E.2.1 0, 24, .inl a_lasts))]) [0, 1, 2, 3, 4, 5] rfl
  have hDl := hD.sub (ws' := [(h0, .inr (12, mG q i_taped i_size i_sort i_what i_at i_end i_worth i_faultKind i_faultPlace i_got (nI wk9) i_deliveries i_isPlanned i_bestDone i_bestCost)), (q 10, .inl (E.2.1 0, 336, .inl a_rules)), (q 11, .inl (E.2.1 0, 7, .inl a_ruleMany)), (q 21, .inl (E.2.1 0, 6, .inl a_litres)), (q 32, .inl (E.2.1 0, 6, .inl a_watches)), (q 22, .inl (E.2.1 0, 24, .inl a_lasts))]) [0, 1, 2, 3, 4, 5] (by decide) rfl
  refine lm_acts E h0 q i_taped i_size i_sort i_what i_at i_end i_worth i_faultKind i_faultPlace i_got i_deliveries i_isPlanned i_bestDone i_bestCost wk9 b fo a_rules a_ruleMany a_litres a_watches a_lasts hx hb hml hown hts hkn hst hA (by omega) (by omega) hI_ruleMany hI_watches (fun  H locs ls  hP hD hS hl => ?_) (fun w_2 H locs ls hlt hP hD hS hl => ?_) 293 (48 * b) _ _ _ (by omega) (by omega) hPl hDl hS (lv_sub hl [1, 2, 3, 0] rfl)
  · have hP : va_P E.1 vwCl [(h0, .inr (12, mG q i_taped i_size i_sort i_what i_at i_end i_worth i_faultKind i_faultPlace i_got (nI wk9) i_deliveries i_isPlanned i_bestDone i_bestCost)), (q 10, .inl (E.2.1 0, 336, .inl a_rules)), (q 11, .inl (E.2.1 0, 7, .inl a_ruleMany)), (q 21, .inl (E.2.1 0, 6, .inl a_litres)), (q 32, .inl (E.2.1 0, 6, .inl a_watches)), (q 22, .inl (E.2.1 0, 24, .inl a_lasts))] H := hP
    have hD : va_D A [(h0, .inr (12, mG q i_taped i_size i_sort i_what i_at i_end i_worth i_faultKind i_faultPlace i_got (nI wk9) i_deliveries i_isPlanned i_bestDone i_bestCost)), (q 10, .inl (E.2.1 0, 336, .inl a_rules)), (q 11, .inl (E.2.1 0, 7, .inl a_ruleMany)), (q 21, .inl (E.2.1 0, 6, .inl a_litres)), (q 32, .inl (E.2.1 0, 6, .inl a_watches)), (q 22, .inl (E.2.1 0, 24, .inl a_lasts))] := hD
    refine lv_iconst (v := (-1)) hx hb dX12_acts_137 (by decide) ?_
    have hP9 := hP.sub (ws' := [(h0, .inr (12, mG q i_taped i_size i_sort i_what i_at i_end i_worth i_faultKind i_faultPlace i_got (nI wk9) i_deliveries i_isPlanned i_bestDone i_bestCost)), (q 10, .inl (E.2.1 0, 336, .inl a_rules)), (q 11, .inl (E.2.1 0, 7, .inl a_ruleMany)), (q 21, .inl (E.2.1 0, 6, .inl a_litres)), (q 32, .inl (E.2.1 0, 6, .inl a_watches)), (q 22, .inl (E.2.1 0, 24, .inl a_lasts))]) [0, 1, 2, 3, 4, 5] rfl
    have hD9 := hD.sub (ws' := [(h0, .inr (12, mG q i_taped i_size i_sort i_what i_at i_end i_worth i_faultKind i_faultPlace i_got (nI wk9) i_deliveries i_isPlanned i_bestDone i_bestCost)), (q 10, .inl (E.2.1 0, 336, .inl a_rules)), (q 11, .inl (E.2.1 0, 7, .inl a_ruleMany)), (q 21, .inl (E.2.1 0, 6, .inl a_litres)), (q 32, .inl (E.2.1 0, 6, .inl a_watches)), (q 22, .inl (E.2.1 0, 24, .inl a_lasts))]) [0, 1, 2, 3, 4, 5] (by decide) rfl
    exact W.iret (v := (-1)) hx hb hr (fun t ht hW => ⟨⟨(-1), (), rfl, trivial, by rw [ht]; exact hP9, hD9⟩, hS.F ht⟩) hS.2.2 dX12_acts_138
  · have hP : va_P E.1 vwCl [(h0, .inr (12, mG q i_taped i_size i_sort i_what i_at i_end i_worth i_faultKind i_faultPlace i_got (nI wk9) i_deliveries i_isPlanned i_bestDone i_bestCost)), (q 10, .inl (E.2.1 0, 336, .inl a_rules)), (q 11, .inl (E.2.1 0, 7, .inl a_ruleMany)), (q 21, .inl (E.2.1 0, 6, .inl a_litres)), (q 32, .inl (E.2.1 0, 6, .inl a_watches)), (q 22, .inl (E.2.1 0, 24, .inl a_lasts))] H := hP
    have hD : va_D A [(h0, .inr (12, mG q i_taped i_size i_sort i_what i_at i_end i_worth i_faultKind i_faultPlace i_got (nI wk9) i_deliveries i_isPlanned i_bestDone i_bestCost)), (q 10, .inl (E.2.1 0, 336, .inl a_rules)), (q 11, .inl (E.2.1 0, 7, .inl a_ruleMany)), (q 21, .inl (E.2.1 0, 6, .inl a_litres)), (q 32, .inl (E.2.1 0, 6, .inl a_watches)), (q 22, .inl (E.2.1 0, 24, .inl a_lasts))] := hD
    refine lv_aload_n hx hb dX12_acts_122 rfl (lv_at hl 0 rfl) ?_
    refine va_get (D := E.1) (ci := 12) (v := .ref (q 10)) (C := RX12) (T := TX12) (N := 59) hx hb hts inX12 hown hK hP 0 rfl rfl 10 (by decide) fl17 (fun _ h9 => h9) rfl dX12_acts_123 ?_
    refine lv_iload_n hx hb dX12_acts_126 rfl (lv_at hl 1 rfl) ?_
    refine lv_iconst (v := 3) hx hb dX12_acts_127 (by decide) ?_
    refine lv_iadd hx hb dX12_acts_128 ?_
    refine lv_topi (fun x_3 ex_3 => ?_)
    obtain rfl : x_3 = nI (w_2 + 3) := ex_3.trans (nI_add w_2 3)
    have hi_4 : vp_in (nI (w_2 + 3)) 336 := vp_in_nI (by omega) (by decide)
    refine va_iald hx hb hK hP 1 0 rfl rfl hi_4 dX12_acts_129 ?_
    refine lv_topi (fun x_5 ex_5 => ?_)
    have hP9 := hP.sub (ws' := [(h0, .inr (12, mG q i_taped i_size i_sort i_what i_at i_end i_worth i_faultKind i_faultPlace i_got (nI wk9) i_deliveries i_isPlanned i_bestDone i_bestCost)), (q 10, .inl (E.2.1 0, 336, .inl a_rules)), (q 11, .inl (E.2.1 0, 7, .inl a_ruleMany)), (q 21, .inl (E.2.1 0, 6, .inl a_litres)), (q 32, .inl (E.2.1 0, 6, .inl a_watches)), (q 22, .inl (E.2.1 0, 24, .inl a_lasts))]) [0, 1, 2, 3, 4, 5] rfl
    have hD9 := hD.sub (ws' := [(h0, .inr (12, mG q i_taped i_size i_sort i_what i_at i_end i_worth i_faultKind i_faultPlace i_got (nI wk9) i_deliveries i_isPlanned i_bestDone i_bestCost)), (q 10, .inl (E.2.1 0, 336, .inl a_rules)), (q 11, .inl (E.2.1 0, 7, .inl a_ruleMany)), (q 21, .inl (E.2.1 0, 6, .inl a_litres)), (q 32, .inl (E.2.1 0, 6, .inl a_watches)), (q 22, .inl (E.2.1 0, 24, .inl a_lasts))]) [0, 1, 2, 3, 4, 5] (by decide) rfl
    exact W.iret (v := x_5) hx hb hr (fun t ht hW => ⟨⟨x_5, (), rfl, trivial, by rw [ht]; exact hP9, hD9⟩, hS.F ht⟩) hS.2.2 dX12_acts_130
