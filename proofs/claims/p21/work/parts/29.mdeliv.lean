set_option maxHeartbeats 4000000 in
set_option maxRecDepth 100000 in
theorem c_X12_deliver (l : Launch) (E : vE) (h0 : Nat) (q : Nat → Nat) (i_taped : Int32) (i_size : Int32) (i_sort : Int32) (i_what : Int32) (i_at : Int32) (i_end : Int32) (i_worth : Int32) (i_faultKind : Int32) (i_faultPlace : Int32) (i_got : Int32) (i_worked : Int32) (i_isPlanned : Int32) (i_bestDone : Int32) (i_bestCost : Int32) (dl : Nat) (a_dFrom : Nat → Int32) (a_dTo : Nat → Int32) (a_dDays : Nat → Int32) (a_dFirst : Nat → Int32) (a_dLast : Nat → Int32) (fr : Int32) (to_ : Int32) (le : Int32) (fi : Int32) (la : Int32) (sz : Nat) (hdl : dl ≤ 7) (hI_dFrom : ∀ k : Nat, k < 7 → inR (a_dFrom k) 0 9 = true) (hI_dTo : ∀ k : Nat, k < 7 → inR (a_dTo k) 0 9 = true) : Met l yX12_deliver wsX12_deliver ({ frames := 2, cells := 0, slots := 0, locals := 42 }) (pcW E [.ref h0, .int fr, .int to_, .int le, .int fi, .int la] sz [(h0, .inr (12, mG q i_taped i_size i_sort i_what i_at i_end i_worth i_faultKind i_faultPlace i_got i_worked (nI dl) i_isPlanned i_bestDone i_bestCost)), (q 42, .inl (E.2.1 0, 7, .inl a_dFrom)), (q 43, .inl (E.2.1 0, 7, .inl a_dTo)), (q 44, .inl (E.2.1 0, 7, .inl a_dDays)), (q 45, .inl (E.2.1 0, 7, .inl a_dFirst)), (q 46, .inl (E.2.1 0, 7, .inl a_dLast))]) (va_Qi (fun (r : Int32) (u : Nat × Int32 × (Nat → Int32) × (Nat → Int32) × (Nat → Int32) × (Nat → Int32) × (Nat → Int32)) => match u with | (dl2, ip2, b_dFrom, b_dTo, b_dDays, b_dFirst, b_dLast) => ((inR fr 0 9 && inR to_ 0 9 && inR le 1 200 && inR fi 0 999 && inR la fi 999) = true ∧ dl < 7 ∧ r = nI dl ∧ dl2 = dl + 1) ∨ ((inR fr 0 9 && inR to_ 0 9 && inR le 1 200 && inR fi 0 999 && inR la fi 999) = true ∧ dl = 7 ∧ r = -3 ∧ dl2 = dl) ∨ ((inR fr 0 9 && inR to_ 0 9 && inR le 1 200 && inR fi 0 999 && inR la fi 999) = false ∧ r = -2 ∧ dl2 = dl)) (fun (u : Nat × Int32 × (Nat → Int32) × (Nat → Int32) × (Nat → Int32) × (Nat → Int32) × (Nat → Int32)) (t : State) => match u with | (dl2, ip2, b_dFrom, b_dTo, b_dDays, b_dFirst, b_dLast) => (∀ k : Nat, k < 7 → inR (b_dFrom k) 0 9 = true) ∧ (∀ k : Nat, k < 7 → inR (b_dTo k) 0 9 = true) ∧ (dl2 ≤ 7) ∧ wB E (va_A [(h0, .inr (12, mG q i_taped i_size i_sort i_what i_at i_end i_worth i_faultKind i_faultPlace i_got i_worked (nI dl) i_isPlanned i_bestDone i_bestCost)), (q 42, .inl (E.2.1 0, 7, .inl a_dFrom)), (q 43, .inl (E.2.1 0, 7, .inl a_dTo)), (q 44, .inl (E.2.1 0, 7, .inl a_dDays)), (q 45, .inl (E.2.1 0, 7, .inl a_dFirst)), (q 46, .inl (E.2.1 0, 7, .inl a_dLast))] sz) [(h0, .inr (12, mG q i_taped i_size i_sort i_what i_at i_end i_worth i_faultKind i_faultPlace i_got i_worked (nI dl2) ip2 i_bestDone i_bestCost)), (q 42, .inl (E.2.1 0, 7, .inl b_dFrom)), (q 43, .inl (E.2.1 0, 7, .inl b_dTo)), (q 44, .inl (E.2.1 0, 7, .inl b_dDays)), (q 45, .inl (E.2.1 0, 7, .inl b_dFirst)), (q 46, .inl (E.2.1 0, 7, .inl b_dLast))] t) (va_A [(h0, .inr (12, mG q i_taped i_size i_sort i_what i_at i_end i_worth i_faultKind i_faultPlace i_got i_worked (nI dl) i_isPlanned i_bestDone i_bestCost)), (q 42, .inl (E.2.1 0, 7, .inl a_dFrom)), (q 43, .inl (E.2.1 0, 7, .inl a_dTo)), (q 44, .inl (E.2.1 0, 7, .inl a_dDays)), (q 45, .inl (E.2.1 0, 7, .inl a_dFirst)), (q 46, .inl (E.2.1 0, 7, .inl a_dLast))] sz)) 0 0 (va_A [(h0, .inr (12, mG q i_taped i_size i_sort i_what i_at i_end i_worth i_faultKind i_faultPlace i_got i_worked (nI dl) i_isPlanned i_bestDone i_bestCost)), (q 42, .inl (E.2.1 0, 7, .inl a_dFrom)), (q 43, .inl (E.2.1 0, 7, .inl a_dTo)), (q 44, .inl (E.2.1 0, 7, .inl a_dDays)), (q 45, .inl (E.2.1 0, 7, .inl a_dFirst)), (q 46, .inl (E.2.1 0, 7, .inl a_dLast))] sz) := by
  refine Met.ofW (cc := cX12_deliver) (maxL := 6) (ret := (some .int)) (by decide) rfl ?_
  intro p e s m args below meth c s₁ B hml hv
  obtain ⟨rfl, hsz, hP, hkn, hD0, hst⟩ := hv
  have hx := B.exec
  have hb := B.bytes
  have hr := B.returns
  have hts := atoms_spec (ws := wsX12_deliver) B.pre
  have hown : s.vm.findClass RX12 = some m.cls := findClass_of_methodNamed B.named
  have hlocks := B.notSynchronized
  subst hsz
  have hD := hD0.self (sz := s.heap.size)
  have hK := hkn.1
  have hAO := hkn.2.2.1
  generalize hAe : va_A [(h0, .inr (12, mG q i_taped i_size i_sort i_what i_at i_end i_worth i_faultKind i_faultPlace i_got i_worked (nI dl) i_isPlanned i_bestDone i_bestCost)), (q 42, .inl (E.2.1 0, 7, .inl a_dFrom)), (q 43, .inl (E.2.1 0, 7, .inl a_dTo)), (q 44, .inl (E.2.1 0, 7, .inl a_dDays)), (q 45, .inl (E.2.1 0, 7, .inl a_dFirst)), (q 46, .inl (E.2.1 0, 7, .inl a_dLast))] s.heap.size = A at hD hst ⊢
  have hA : ∀ q : Nat, s.heap.size ≤ q → A q := fun q h => by rw [← hAe]; exact Or.inr h
  have hS : va_S A s.heap s.heap [] := va_S.rf
  have hP : va_P E.1 vwCl [(h0, .inr (12, mG q i_taped i_size i_sort i_what i_at i_end i_worth i_faultKind i_faultPlace i_got i_worked (nI dl) i_isPlanned i_bestDone i_bestCost)), (q 42, .inl (E.2.1 0, 7, .inl a_dFrom)), (q 43, .inl (E.2.1 0, 7, .inl a_dTo)), (q 44, .inl (E.2.1 0, 7, .inl a_dDays)), (q 45, .inl (E.2.1 0, 7, .inl a_dFirst)), (q 46, .inl (E.2.1 0, 7, .inl a_dLast))] s.heap := hP
  have hl := lv_entry ([.ref h0, .int fr, .int to_, .int le, .int fi, .int la]) (n := 6) (Nat.le_of_ble_eq_true rfl)
  rw [lg_entry_eq]
  generalize (lg_sl ([.ref h0, .int fr, .int to_, .int le, .int fi, .int la]) ++ List.replicate (6 - (lg_sl ([.ref h0, .int fr, .int to_, .int le, .int fi, .int la])).length) Slot.unset).toArray = ls at hl ⊢
  have hl : lv_has ls 6 [(0, .ref h0), (1, .int fr), (2, .int to_), (3, .int le), (4, .int fi), (5, .int la)] := hl
  have fl106 := hts (.fieldLink RX12 106 "BoatsHomeModel" "dFrom" "[I") (by first | exact List.mem_of_getElem? (i := 2) rfl | decide +kernel)
  have fl109 := hts (.fieldLink RX12 109 "BoatsHomeModel" "dTo" "[I") (by first | exact List.mem_of_getElem? (i := 3) rfl | decide +kernel)
  have fl112 := hts (.fieldLink RX12 112 "BoatsHomeModel" "dDays" "[I") (by first | exact List.mem_of_getElem? (i := 4) rfl | decide +kernel)
  have fl115 := hts (.fieldLink RX12 115 "BoatsHomeModel" "dFirst" "[I") (by first | exact List.mem_of_getElem? (i := 5) rfl | decide +kernel)
  have fl118 := hts (.fieldLink RX12 118 "BoatsHomeModel" "dLast" "[I") (by first | exact List.mem_of_getElem? (i := 6) rfl | decide +kernel)
  have fl289 := hts (.fieldLink RX12 289 "BoatsHomeModel" "deliveries" "I") (by first | exact List.mem_of_getElem? (i := 1) rfl | decide +kernel)
  have fl292 := hts (.fieldLink RX12 292 "BoatsHomeModel" "isPlanned" "Z") (by first | exact List.mem_of_getElem? (i := 7) rfl | decide +kernel)
  have inX12 : ∀ w ∈ u_ws RX12 TX12 59, w ∈ wsX12_deliver := by first | exact fun w h9 => (List.mem_cons_of_mem _ (List.mem_append_right _ h9)) | decide +kernel
  refine lv_iload_n hx hb dX12_deliver_0 rfl (lv_at hl 1 rfl) ?_
  have hPc := hP.sub (ws' := []) [] rfl
  have hDc := hD.sub (ws' := []) [] (by decide) rfl
  have hFc := va_free (wc := []) hD hS hA [] rfl
  refine va_calli (va_runS (As := [.int fr]) (rest := []) ⟨hx, hb, hml, hown, hts⟩ (c_X12_isPort l E fr s.heap.size ) (va_cwS 1 hts gX12_deliver_X12_isPort rfl rfl rfl hdS_X12_isPort ⟨Nat.le_of_ble_eq_true rfl, Nat.le_of_ble_eq_true rfl⟩) ⟨pcW_blind, (pcW_pre hPc hkn hDc hst hS hFc)⟩ rfl rfl hl.1 rfl (lv_room (Nat.le_of_ble_eq_true rfl)) dX12_deliver_1 ⟨Nat.le_of_ble_eq_true rfl, Nat.le_of_ble_eq_true rfl⟩) hS (fun q _ h => hFc q h) hFc (fun r_1 u t H1 locs ht hvm hw_2 hB hz1 hk1 hS => ?_)
  obtain ⟨hP1, hD1⟩ := hB
  rw [ht] at hP1
  try dsimp only at hw_2
  obtain ⟨hP, hD⟩ := va_join (wr := [(h0, .inr (12, mG q i_taped i_size i_sort i_what i_at i_end i_worth i_faultKind i_faultPlace i_got i_worked (nI dl) i_isPlanned i_bestDone i_bestCost)), (q 42, .inl (E.2.1 0, 7, .inl a_dFrom)), (q 43, .inl (E.2.1 0, 7, .inl a_dTo)), (q 44, .inl (E.2.1 0, 7, .inl a_dDays)), (q 45, .inl (E.2.1 0, 7, .inl a_dFirst)), (q 46, .inl (E.2.1 0, 7, .inl a_dLast))]) (w1 := []) hP hD [] [0, 1, 2, 3, 4, 5] rfl rfl (by decide) (by decide) hk1 hFc hP1 hD1
  generalize H1 = H at hP hS ⊢
  have hP : va_P E.1 vwCl [(h0, .inr (12, mG q i_taped i_size i_sort i_what i_at i_end i_worth i_faultKind i_faultPlace i_got i_worked (nI dl) i_isPlanned i_bestDone i_bestCost)), (q 42, .inl (E.2.1 0, 7, .inl a_dFrom)), (q 43, .inl (E.2.1 0, 7, .inl a_dTo)), (q 44, .inl (E.2.1 0, 7, .inl a_dDays)), (q 45, .inl (E.2.1 0, 7, .inl a_dFirst)), (q 46, .inl (E.2.1 0, 7, .inl a_dLast))] H := hP
  have hD : va_D A [(h0, .inr (12, mG q i_taped i_size i_sort i_what i_at i_end i_worth i_faultKind i_faultPlace i_got i_worked (nI dl) i_isPlanned i_bestDone i_bestCost)), (q 42, .inl (E.2.1 0, 7, .inl a_dFrom)), (q 43, .inl (E.2.1 0, 7, .inl a_dTo)), (q 44, .inl (E.2.1 0, 7, .inl a_dDays)), (q 45, .inl (E.2.1 0, 7, .inl a_dFirst)), (q 46, .inl (E.2.1 0, 7, .inl a_dLast))] := hD
  refine lv_if_eq (tgt := 50) hx hb dX12_deliver_4 (by decide) (fun c_3 => ?_) (fun c_3 => ?_)
  · have b_4 : inR fr 0 9 = false := bz hw_2 c_3
    refine lv_bipush (v := (-2)) hx hb dX12_deliver_50 (by decide) ?_
    have hP9 := hP.sub (ws' := [(h0, .inr (12, mG q i_taped i_size i_sort i_what i_at i_end i_worth i_faultKind i_faultPlace i_got i_worked (nI dl) i_isPlanned i_bestDone i_bestCost)), (q 42, .inl (E.2.1 0, 7, .inl a_dFrom)), (q 43, .inl (E.2.1 0, 7, .inl a_dTo)), (q 44, .inl (E.2.1 0, 7, .inl a_dDays)), (q 45, .inl (E.2.1 0, 7, .inl a_dFirst)), (q 46, .inl (E.2.1 0, 7, .inl a_dLast))]) [0, 1, 2, 3, 4, 5] rfl
    have hD9 := hD.sub (ws' := [(h0, .inr (12, mG q i_taped i_size i_sort i_what i_at i_end i_worth i_faultKind i_faultPlace i_got i_worked (nI dl) i_isPlanned i_bestDone i_bestCost)), (q 42, .inl (E.2.1 0, 7, .inl a_dFrom)), (q 43, .inl (E.2.1 0, 7, .inl a_dTo)), (q 44, .inl (E.2.1 0, 7, .inl a_dDays)), (q 45, .inl (E.2.1 0, 7, .inl a_dFirst)), (q 46, .inl (E.2.1 0, 7, .inl a_dLast))]) [0, 1, 2, 3, 4, 5] (by decide) rfl
    exact W.iret (v := (-2)) hx hb hr (fun t ht hW => ⟨⟨(-2), (dl, i_isPlanned, a_dFrom, a_dTo, a_dDays, a_dFirst, a_dLast), rfl, Or.inr (Or.inr ⟨(by first | (rw [b_4]; done) | (rw [b_4]; rfl)), rfl, rfl⟩), hI_dFrom, hI_dTo, (by omega), by rw [ht]; exact hP9, hD9⟩, hS.F ht⟩) hS.2.2 dX12_deliver_52
  · have b_5 : inR fr 0 9 = true := bn hw_2 c_3
    refine lv_iload_n hx hb dX12_deliver_7 rfl (lv_at hl 2 rfl) ?_
    have hPc := hP.sub (ws' := []) [] rfl
    have hDc := hD.sub (ws' := []) [] (by decide) rfl
    have hFc := va_free (wc := []) hD hS hA [] rfl
    refine va_calli (va_runS (As := [.int to_]) (rest := []) ⟨hx, hb, hml, hown, hts⟩ (c_X12_isPort l E to_ H.size ) (va_cwS 1 hts gX12_deliver_X12_isPort rfl rfl rfl hdS_X12_isPort ⟨Nat.le_of_ble_eq_true rfl, Nat.le_of_ble_eq_true rfl⟩) ⟨pcW_blind, (pcW_pre hPc hkn hDc hst hS hFc)⟩ rfl rfl hl.1 rfl (lv_room (Nat.le_of_ble_eq_true rfl)) dX12_deliver_8 ⟨Nat.le_of_ble_eq_true rfl, Nat.le_of_ble_eq_true rfl⟩) hS (fun q _ h => hFc q h) hFc (fun r_6 u t H1 locs ht hvm hw_7 hB hz1 hk1 hS => ?_)
    obtain ⟨hP1, hD1⟩ := hB
    rw [ht] at hP1
    try dsimp only at hw_7
    obtain ⟨hP, hD⟩ := va_join (wr := [(h0, .inr (12, mG q i_taped i_size i_sort i_what i_at i_end i_worth i_faultKind i_faultPlace i_got i_worked (nI dl) i_isPlanned i_bestDone i_bestCost)), (q 42, .inl (E.2.1 0, 7, .inl a_dFrom)), (q 43, .inl (E.2.1 0, 7, .inl a_dTo)), (q 44, .inl (E.2.1 0, 7, .inl a_dDays)), (q 45, .inl (E.2.1 0, 7, .inl a_dFirst)), (q 46, .inl (E.2.1 0, 7, .inl a_dLast))]) (w1 := []) hP hD [] [0, 1, 2, 3, 4, 5] rfl rfl (by decide) (by decide) hk1 hFc hP1 hD1
    generalize H1 = H at hP hS ⊢
    have hP : va_P E.1 vwCl [(h0, .inr (12, mG q i_taped i_size i_sort i_what i_at i_end i_worth i_faultKind i_faultPlace i_got i_worked (nI dl) i_isPlanned i_bestDone i_bestCost)), (q 42, .inl (E.2.1 0, 7, .inl a_dFrom)), (q 43, .inl (E.2.1 0, 7, .inl a_dTo)), (q 44, .inl (E.2.1 0, 7, .inl a_dDays)), (q 45, .inl (E.2.1 0, 7, .inl a_dFirst)), (q 46, .inl (E.2.1 0, 7, .inl a_dLast))] H := hP
    have hD : va_D A [(h0, .inr (12, mG q i_taped i_size i_sort i_what i_at i_end i_worth i_faultKind i_faultPlace i_got i_worked (nI dl) i_isPlanned i_bestDone i_bestCost)), (q 42, .inl (E.2.1 0, 7, .inl a_dFrom)), (q 43, .inl (E.2.1 0, 7, .inl a_dTo)), (q 44, .inl (E.2.1 0, 7, .inl a_dDays)), (q 45, .inl (E.2.1 0, 7, .inl a_dFirst)), (q 46, .inl (E.2.1 0, 7, .inl a_dLast))] := hD
    refine lv_if_eq (tgt := 50) hx hb dX12_deliver_11 (by decide) (fun c_8 => ?_) (fun c_8 => ?_)
    · have b_9 : inR to_ 0 9 = false := bz hw_7 c_8
      refine lv_bipush (v := (-2)) hx hb dX12_deliver_50 (by decide) ?_
      have hP9 := hP.sub (ws' := [(h0, .inr (12, mG q i_taped i_size i_sort i_what i_at i_end i_worth i_faultKind i_faultPlace i_got i_worked (nI dl) i_isPlanned i_bestDone i_bestCost)), (q 42, .inl (E.2.1 0, 7, .inl a_dFrom)), (q 43, .inl (E.2.1 0, 7, .inl a_dTo)), (q 44, .inl (E.2.1 0, 7, .inl a_dDays)), (q 45, .inl (E.2.1 0, 7, .inl a_dFirst)), (q 46, .inl (E.2.1 0, 7, .inl a_dLast))]) [0, 1, 2, 3, 4, 5] rfl
      have hD9 := hD.sub (ws' := [(h0, .inr (12, mG q i_taped i_size i_sort i_what i_at i_end i_worth i_faultKind i_faultPlace i_got i_worked (nI dl) i_isPlanned i_bestDone i_bestCost)), (q 42, .inl (E.2.1 0, 7, .inl a_dFrom)), (q 43, .inl (E.2.1 0, 7, .inl a_dTo)), (q 44, .inl (E.2.1 0, 7, .inl a_dDays)), (q 45, .inl (E.2.1 0, 7, .inl a_dFirst)), (q 46, .inl (E.2.1 0, 7, .inl a_dLast))]) [0, 1, 2, 3, 4, 5] (by decide) rfl
      exact W.iret (v := (-2)) hx hb hr (fun t ht hW => ⟨⟨(-2), (dl, i_isPlanned, a_dFrom, a_dTo, a_dDays, a_dFirst, a_dLast), rfl, Or.inr (Or.inr ⟨(by first | (rw [b_5, b_9]; done) | (rw [b_5, b_9]; rfl)), rfl, rfl⟩), hI_dFrom, hI_dTo, (by omega), by rw [ht]; exact hP9, hD9⟩, hS.F ht⟩) hS.2.2 dX12_deliver_52
    · have b_10 : inR to_ 0 9 = true := bn hw_7 c_8
      refine lv_iload_n hx hb dX12_deliver_14 rfl (lv_at hl 3 rfl) ?_
      refine lv_iconst (v := 1) hx hb dX12_deliver_15 (by decide) ?_
      refine lv_sipush (v := 200) hx hb dX12_deliver_16 (by decide) ?_
      have hPc := hP.sub (ws' := []) [] rfl
      have hDc := hD.sub (ws' := []) [] (by decide) rfl
      have hFc := va_free (wc := []) hD hS hA [] rfl
      refine va_calli (va_runS (As := [.int le, .int 1, .int 200]) (rest := []) ⟨hx, hb, hml, hown, hts⟩ (c_X12_in l E le 1 200 H.size ) (va_cwS 3 hts gX12_deliver_X12_in rfl rfl rfl hdS_X12_in ⟨Nat.le_of_ble_eq_true rfl, Nat.le_of_ble_eq_true rfl⟩) ⟨pcW_blind, (pcW_pre hPc hkn hDc hst hS hFc)⟩ rfl rfl hl.1 rfl (lv_room (Nat.le_of_ble_eq_true rfl)) dX12_deliver_19 ⟨Nat.le_of_ble_eq_true rfl, Nat.le_of_ble_eq_true rfl⟩) hS (fun q _ h => hFc q h) hFc (fun r_11 u t H1 locs ht hvm hw_12 hB hz1 hk1 hS => ?_)
      obtain ⟨hP1, hD1⟩ := hB
      rw [ht] at hP1
      try dsimp only at hw_12
      obtain ⟨hP, hD⟩ := va_join (wr := [(h0, .inr (12, mG q i_taped i_size i_sort i_what i_at i_end i_worth i_faultKind i_faultPlace i_got i_worked (nI dl) i_isPlanned i_bestDone i_bestCost)), (q 42, .inl (E.2.1 0, 7, .inl a_dFrom)), (q 43, .inl (E.2.1 0, 7, .inl a_dTo)), (q 44, .inl (E.2.1 0, 7, .inl a_dDays)), (q 45, .inl (E.2.1 0, 7, .inl a_dFirst)), (q 46, .inl (E.2.1 0, 7, .inl a_dLast))]) (w1 := []) hP hD [] [0, 1, 2, 3, 4, 5] rfl rfl (by decide) (by decide) hk1 hFc hP1 hD1
      generalize H1 = H at hP hS ⊢
      have hP : va_P E.1 vwCl [(h0, .inr (12, mG q i_taped i_size i_sort i_what i_at i_end i_worth i_faultKind i_faultPlace i_got i_worked (nI dl) i_isPlanned i_bestDone i_bestCost)), (q 42, .inl (E.2.1 0, 7, .inl a_dFrom)), (q 43, .inl (E.2.1 0, 7, .inl a_dTo)), (q 44, .inl (E.2.1 0, 7, .inl a_dDays)), (q 45, .inl (E.2.1 0, 7, .inl a_dFirst)), (q 46, .inl (E.2.1 0, 7, .inl a_dLast))] H := hP
      have hD : va_D A [(h0, .inr (12, mG q i_taped i_size i_sort i_what i_at i_end i_worth i_faultKind i_faultPlace i_got i_worked (nI dl) i_isPlanned i_bestDone i_bestCost)), (q 42, .inl (E.2.1 0, 7, .inl a_dFrom)), (q 43, .inl (E.2.1 0, 7, .inl a_dTo)), (q 44, .inl (E.2.1 0, 7, .inl a_dDays)), (q 45, .inl (E.2.1 0, 7, .inl a_dFirst)), (q 46, .inl (E.2.1 0, 7, .inl a_dLast))] := hD
      refine lv_if_eq (tgt := 50) hx hb dX12_deliver_22 (by decide) (fun c_13 => ?_) (fun c_13 => ?_)
      · have b_14 : inR le 1 200 = false := bz hw_12 c_13
        refine lv_bipush (v := (-2)) hx hb dX12_deliver_50 (by decide) ?_
        have hP9 := hP.sub (ws' := [(h0, .inr (12, mG q i_taped i_size i_sort i_what i_at i_end i_worth i_faultKind i_faultPlace i_got i_worked (nI dl) i_isPlanned i_bestDone i_bestCost)), (q 42, .inl (E.2.1 0, 7, .inl a_dFrom)), (q 43, .inl (E.2.1 0, 7, .inl a_dTo)), (q 44, .inl (E.2.1 0, 7, .inl a_dDays)), (q 45, .inl (E.2.1 0, 7, .inl a_dFirst)), (q 46, .inl (E.2.1 0, 7, .inl a_dLast))]) [0, 1, 2, 3, 4, 5] rfl
        have hD9 := hD.sub (ws' := [(h0, .inr (12, mG q i_taped i_size i_sort i_what i_at i_end i_worth i_faultKind i_faultPlace i_got i_worked (nI dl) i_isPlanned i_bestDone i_bestCost)), (q 42, .inl (E.2.1 0, 7, .inl a_dFrom)), (q 43, .inl (E.2.1 0, 7, .inl a_dTo)), (q 44, .inl (E.2.1 0, 7, .inl a_dDays)), (q 45, .inl (E.2.1 0, 7, .inl a_dFirst)), (q 46, .inl (E.2.1 0, 7, .inl a_dLast))]) [0, 1, 2, 3, 4, 5] (by decide) rfl
        exact W.iret (v := (-2)) hx hb hr (fun t ht hW => ⟨⟨(-2), (dl, i_isPlanned, a_dFrom, a_dTo, a_dDays, a_dFirst, a_dLast), rfl, Or.inr (Or.inr ⟨(by first | (rw [b_5, b_10, b_14]; done) | (rw [b_5, b_10, b_14]; rfl)), rfl, rfl⟩), hI_dFrom, hI_dTo, (by omega), by rw [ht]; exact hP9, hD9⟩, hS.F ht⟩) hS.2.2 dX12_deliver_52
      · have b_15 : inR le 1 200 = true := bn hw_12 c_13
        refine lv_iload hx hb dX12_deliver_25 (lv_at hl 4 rfl) ?_
        refine lv_iconst (v := 0) hx hb dX12_deliver_27 (by decide) ?_
        refine lv_sipush (v := 999) hx hb dX12_deliver_28 (by decide) ?_
        have hPc := hP.sub (ws' := []) [] rfl
        have hDc := hD.sub (ws' := []) [] (by decide) rfl
        have hFc := va_free (wc := []) hD hS hA [] rfl
        refine va_calli (va_runS (As := [.int fi, .int 0, .int 999]) (rest := []) ⟨hx, hb, hml, hown, hts⟩ (c_X12_in l E fi 0 999 H.size ) (va_cwS 3 hts gX12_deliver_X12_in rfl rfl rfl hdS_X12_in ⟨Nat.le_of_ble_eq_true rfl, Nat.le_of_ble_eq_true rfl⟩) ⟨pcW_blind, (pcW_pre hPc hkn hDc hst hS hFc)⟩ rfl rfl hl.1 rfl (lv_room (Nat.le_of_ble_eq_true rfl)) dX12_deliver_31 ⟨Nat.le_of_ble_eq_true rfl, Nat.le_of_ble_eq_true rfl⟩) hS (fun q _ h => hFc q h) hFc (fun r_16 u t H1 locs ht hvm hw_17 hB hz1 hk1 hS => ?_)
        obtain ⟨hP1, hD1⟩ := hB
        rw [ht] at hP1
        try dsimp only at hw_17
        obtain ⟨hP, hD⟩ := va_join (wr := [(h0, .inr (12, mG q i_taped i_size i_sort i_what i_at i_end i_worth i_faultKind i_faultPlace i_got i_worked (nI dl) i_isPlanned i_bestDone i_bestCost)), (q 42, .inl (E.2.1 0, 7, .inl a_dFrom)), (q 43, .inl (E.2.1 0, 7, .inl a_dTo)), (q 44, .inl (E.2.1 0, 7, .inl a_dDays)), (q 45, .inl (E.2.1 0, 7, .inl a_dFirst)), (q 46, .inl (E.2.1 0, 7, .inl a_dLast))]) (w1 := []) hP hD [] [0, 1, 2, 3, 4, 5] rfl rfl (by decide) (by decide) hk1 hFc hP1 hD1
        generalize H1 = H at hP hS ⊢
        have hP : va_P E.1 vwCl [(h0, .inr (12, mG q i_taped i_size i_sort i_what i_at i_end i_worth i_faultKind i_faultPlace i_got i_worked (nI dl) i_isPlanned i_bestDone i_bestCost)), (q 42, .inl (E.2.1 0, 7, .inl a_dFrom)), (q 43, .inl (E.2.1 0, 7, .inl a_dTo)), (q 44, .inl (E.2.1 0, 7, .inl a_dDays)), (q 45, .inl (E.2.1 0, 7, .inl a_dFirst)), (q 46, .inl (E.2.1 0, 7, .inl a_dLast))] H := hP
        have hD : va_D A [(h0, .inr (12, mG q i_taped i_size i_sort i_what i_at i_end i_worth i_faultKind i_faultPlace i_got i_worked (nI dl) i_isPlanned i_bestDone i_bestCost)), (q 42, .inl (E.2.1 0, 7, .inl a_dFrom)), (q 43, .inl (E.2.1 0, 7, .inl a_dTo)), (q 44, .inl (E.2.1 0, 7, .inl a_dDays)), (q 45, .inl (E.2.1 0, 7, .inl a_dFirst)), (q 46, .inl (E.2.1 0, 7, .inl a_dLast))] := hD
        refine lv_if_eq (tgt := 50) hx hb dX12_deliver_34 (by decide) (fun c_18 => ?_) (fun c_18 => ?_)
        · have b_19 : inR fi 0 999 = false := bz hw_17 c_18
          refine lv_bipush (v := (-2)) hx hb dX12_deliver_50 (by decide) ?_
          have hP9 := hP.sub (ws' := [(h0, .inr (12, mG q i_taped i_size i_sort i_what i_at i_end i_worth i_faultKind i_faultPlace i_got i_worked (nI dl) i_isPlanned i_bestDone i_bestCost)), (q 42, .inl (E.2.1 0, 7, .inl a_dFrom)), (q 43, .inl (E.2.1 0, 7, .inl a_dTo)), (q 44, .inl (E.2.1 0, 7, .inl a_dDays)), (q 45, .inl (E.2.1 0, 7, .inl a_dFirst)), (q 46, .inl (E.2.1 0, 7, .inl a_dLast))]) [0, 1, 2, 3, 4, 5] rfl
          have hD9 := hD.sub (ws' := [(h0, .inr (12, mG q i_taped i_size i_sort i_what i_at i_end i_worth i_faultKind i_faultPlace i_got i_worked (nI dl) i_isPlanned i_bestDone i_bestCost)), (q 42, .inl (E.2.1 0, 7, .inl a_dFrom)), (q 43, .inl (E.2.1 0, 7, .inl a_dTo)), (q 44, .inl (E.2.1 0, 7, .inl a_dDays)), (q 45, .inl (E.2.1 0, 7, .inl a_dFirst)), (q 46, .inl (E.2.1 0, 7, .inl a_dLast))]) [0, 1, 2, 3, 4, 5] (by decide) rfl
          exact W.iret (v := (-2)) hx hb hr (fun t ht hW => ⟨⟨(-2), (dl, i_isPlanned, a_dFrom, a_dTo, a_dDays, a_dFirst, a_dLast), rfl, Or.inr (Or.inr ⟨(by first | (rw [b_5, b_10, b_15, b_19]; done) | (rw [b_5, b_10, b_15, b_19]; rfl)), rfl, rfl⟩), hI_dFrom, hI_dTo, (by omega), by rw [ht]; exact hP9, hD9⟩, hS.F ht⟩) hS.2.2 dX12_deliver_52
        · have b_20 : inR fi 0 999 = true := bn hw_17 c_18
          refine lv_iload hx hb dX12_deliver_37 (lv_at hl 5 rfl) ?_
          refine lv_iload hx hb dX12_deliver_39 (lv_at hl 4 rfl) ?_
          refine lv_sipush (v := 999) hx hb dX12_deliver_41 (by decide) ?_
          have hPc := hP.sub (ws' := []) [] rfl
          have hDc := hD.sub (ws' := []) [] (by decide) rfl
          have hFc := va_free (wc := []) hD hS hA [] rfl
          refine va_calli (va_runS (As := [.int la, .int fi, .int 999]) (rest := []) ⟨hx, hb, hml, hown, hts⟩ (c_X12_in l E la fi 999 H.size ) (va_cwS 3 hts gX12_deliver_X12_in rfl rfl rfl hdS_X12_in ⟨Nat.le_of_ble_eq_true rfl, Nat.le_of_ble_eq_true rfl⟩) ⟨pcW_blind, (pcW_pre hPc hkn hDc hst hS hFc)⟩ rfl rfl hl.1 rfl (lv_room (Nat.le_of_ble_eq_true rfl)) dX12_deliver_44 ⟨Nat.le_of_ble_eq_true rfl, Nat.le_of_ble_eq_true rfl⟩) hS (fun q _ h => hFc q h) hFc (fun r_21 u t H1 locs ht hvm hw_22 hB hz1 hk1 hS => ?_)
          obtain ⟨hP1, hD1⟩ := hB
          rw [ht] at hP1
          try dsimp only at hw_22
          obtain ⟨hP, hD⟩ := va_join (wr := [(h0, .inr (12, mG q i_taped i_size i_sort i_what i_at i_end i_worth i_faultKind i_faultPlace i_got i_worked (nI dl) i_isPlanned i_bestDone i_bestCost)), (q 42, .inl (E.2.1 0, 7, .inl a_dFrom)), (q 43, .inl (E.2.1 0, 7, .inl a_dTo)), (q 44, .inl (E.2.1 0, 7, .inl a_dDays)), (q 45, .inl (E.2.1 0, 7, .inl a_dFirst)), (q 46, .inl (E.2.1 0, 7, .inl a_dLast))]) (w1 := []) hP hD [] [0, 1, 2, 3, 4, 5] rfl rfl (by decide) (by decide) hk1 hFc hP1 hD1
          generalize H1 = H at hP hS ⊢
          have hP : va_P E.1 vwCl [(h0, .inr (12, mG q i_taped i_size i_sort i_what i_at i_end i_worth i_faultKind i_faultPlace i_got i_worked (nI dl) i_isPlanned i_bestDone i_bestCost)), (q 42, .inl (E.2.1 0, 7, .inl a_dFrom)), (q 43, .inl (E.2.1 0, 7, .inl a_dTo)), (q 44, .inl (E.2.1 0, 7, .inl a_dDays)), (q 45, .inl (E.2.1 0, 7, .inl a_dFirst)), (q 46, .inl (E.2.1 0, 7, .inl a_dLast))] H := hP
          have hD : va_D A [(h0, .inr (12, mG q i_taped i_size i_sort i_what i_at i_end i_worth i_faultKind i_faultPlace i_got i_worked (nI dl) i_isPlanned i_bestDone i_bestCost)), (q 42, .inl (E.2.1 0, 7, .inl a_dFrom)), (q 43, .inl (E.2.1 0, 7, .inl a_dTo)), (q 44, .inl (E.2.1 0, 7, .inl a_dDays)), (q 45, .inl (E.2.1 0, 7, .inl a_dFirst)), (q 46, .inl (E.2.1 0, 7, .inl a_dLast))] := hD
          refine lv_if_ne (tgt := 53) hx hb dX12_deliver_47 (by decide) (fun c_23 => ?_) (fun c_23 => ?_)
          · have b_24 : inR la fi 999 = true := bn hw_22 c_23
            refine lv_aload_n hx hb dX12_deliver_53 rfl (lv_at hl 0 rfl) ?_
            refine va_get (D := E.1) (ci := 12) (v := .int (nI dl)) (C := RX12) (T := TX12) (N := 59) hx hb hts inX12 hown hK hP 0 rfl rfl 41 (by decide) fl289 (fun _ h9 => h9) rfl dX12_deliver_54 ?_
            refine lv_bipush (v := 7) hx hb dX12_deliver_57 (by decide) ?_
            refine lv_icmp_ne (tgt := 65) hx hb dX12_deliver_59 (by decide) (fun c_25 => ?_) (fun c_25 => ?_)
            · have hd7 : dl < 7 := by
                rcases Nat.lt_or_ge dl 7 with q | q
                · exact q
                · exact absurd (by rw [show dl = 7 by omega]; rfl) c_25
              refine lv_aload_n hx hb dX12_deliver_65 rfl (lv_at hl 0 rfl) ?_
              refine va_get (D := E.1) (ci := 12) (v := .ref (q 42)) (C := RX12) (T := TX12) (N := 59) hx hb hts inX12 hown hK hP 0 rfl rfl 42 (by decide) fl106 (fun _ h9 => h9) rfl dX12_deliver_66 ?_
              refine lv_aload_n hx hb dX12_deliver_69 rfl (lv_at hl 0 rfl) ?_
              refine va_get (D := E.1) (ci := 12) (v := .int (nI dl)) (C := RX12) (T := TX12) (N := 59) hx hb hts inX12 hown hK hP 0 rfl rfl 41 (by decide) fl289 (fun _ h9 => h9) rfl dX12_deliver_70 ?_
              refine lv_iload_n hx hb dX12_deliver_73 rfl (lv_at hl 1 rfl) ?_
              have hi_26 : vp_in (nI dl) 7 := vp_in_nI (by omega) (by decide)
              refine va_iast hx hb hK hP hD hS 1 0 rfl rfl hi_26 dX12_deliver_74 (fun H locs hP hD hS => ?_)
              have hP : va_P E.1 vwCl [(h0, .inr (12, mG q i_taped i_size i_sort i_what i_at i_end i_worth i_faultKind i_faultPlace i_got i_worked (nI dl) i_isPlanned i_bestDone i_bestCost)), (q 42, .inl (E.2.1 0, 7, .inl (upd a_dFrom (nI dl).toNatClampNeg fr))), (q 43, .inl (E.2.1 0, 7, .inl a_dTo)), (q 44, .inl (E.2.1 0, 7, .inl a_dDays)), (q 45, .inl (E.2.1 0, 7, .inl a_dFirst)), (q 46, .inl (E.2.1 0, 7, .inl a_dLast))] H := hP
              have hD : va_D A [(h0, .inr (12, mG q i_taped i_size i_sort i_what i_at i_end i_worth i_faultKind i_faultPlace i_got i_worked (nI dl) i_isPlanned i_bestDone i_bestCost)), (q 42, .inl (E.2.1 0, 7, .inl (upd a_dFrom (nI dl).toNatClampNeg fr))), (q 43, .inl (E.2.1 0, 7, .inl a_dTo)), (q 44, .inl (E.2.1 0, 7, .inl a_dDays)), (q 45, .inl (E.2.1 0, 7, .inl a_dFirst)), (q 46, .inl (E.2.1 0, 7, .inl a_dLast))] := hD
              obtain ⟨f_27, ef_27⟩ : ∃ g : Nat → Int32, g = upd a_dFrom (nI dl).toNatClampNeg fr := ⟨_, rfl⟩
              rw [← ef_27] at hP hD
              have hI_28 : ∀ k : Nat, k < 7 → inR (f_27 k) 0 9 = true := by rw [ef_27]; exact all_upd (P := fun z => inR z 0 9 = true) hI_dFrom b_5
              refine lv_aload_n hx hb dX12_deliver_75 rfl (lv_at hl 0 rfl) ?_
              refine va_get (D := E.1) (ci := 12) (v := .ref (q 43)) (C := RX12) (T := TX12) (N := 59) hx hb hts inX12 hown hK hP 0 rfl rfl 43 (by decide) fl109 (fun _ h9 => h9) rfl dX12_deliver_76 ?_
              refine lv_aload_n hx hb dX12_deliver_79 rfl (lv_at hl 0 rfl) ?_
              refine va_get (D := E.1) (ci := 12) (v := .int (nI dl)) (C := RX12) (T := TX12) (N := 59) hx hb hts inX12 hown hK hP 0 rfl rfl 41 (by decide) fl289 (fun _ h9 => h9) rfl dX12_deliver_80 ?_
              refine lv_iload_n hx hb dX12_deliver_83 rfl (lv_at hl 2 rfl) ?_
              refine va_iast hx hb hK hP hD hS 2 0 rfl rfl hi_26 dX12_deliver_84 (fun H locs hP hD hS => ?_)
              have hP : va_P E.1 vwCl [(h0, .inr (12, mG q i_taped i_size i_sort i_what i_at i_end i_worth i_faultKind i_faultPlace i_got i_worked (nI dl) i_isPlanned i_bestDone i_bestCost)), (q 42, .inl (E.2.1 0, 7, .inl f_27)), (q 43, .inl (E.2.1 0, 7, .inl (upd a_dTo (nI dl).toNatClampNeg to_))), (q 44, .inl (E.2.1 0, 7, .inl a_dDays)), (q 45, .inl (E.2.1 0, 7, .inl a_dFirst)), (q 46, .inl (E.2.1 0, 7, .inl a_dLast))] H := hP
              have hD : va_D A [(h0, .inr (12, mG q i_taped i_size i_sort i_what i_at i_end i_worth i_faultKind i_faultPlace i_got i_worked (nI dl) i_isPlanned i_bestDone i_bestCost)), (q 42, .inl (E.2.1 0, 7, .inl f_27)), (q 43, .inl (E.2.1 0, 7, .inl (upd a_dTo (nI dl).toNatClampNeg to_))), (q 44, .inl (E.2.1 0, 7, .inl a_dDays)), (q 45, .inl (E.2.1 0, 7, .inl a_dFirst)), (q 46, .inl (E.2.1 0, 7, .inl a_dLast))] := hD
              obtain ⟨f_29, ef_29⟩ : ∃ g : Nat → Int32, g = upd a_dTo (nI dl).toNatClampNeg to_ := ⟨_, rfl⟩
              rw [← ef_29] at hP hD
              have hI_30 : ∀ k : Nat, k < 7 → inR (f_29 k) 0 9 = true := by rw [ef_29]; exact all_upd (P := fun z => inR z 0 9 = true) hI_dTo b_10
              refine lv_aload_n hx hb dX12_deliver_85 rfl (lv_at hl 0 rfl) ?_
              refine va_get (D := E.1) (ci := 12) (v := .ref (q 44)) (C := RX12) (T := TX12) (N := 59) hx hb hts inX12 hown hK hP 0 rfl rfl 44 (by decide) fl112 (fun _ h9 => h9) rfl dX12_deliver_86 ?_
              refine lv_aload_n hx hb dX12_deliver_89 rfl (lv_at hl 0 rfl) ?_
              refine va_get (D := E.1) (ci := 12) (v := .int (nI dl)) (C := RX12) (T := TX12) (N := 59) hx hb hts inX12 hown hK hP 0 rfl rfl 41 (by decide) fl289 (fun _ h9 => h9) rfl dX12_deliver_90 ?_
              refine lv_iload_n hx hb dX12_deliver_93 rfl (lv_at hl 3 rfl) ?_
              refine va_iast hx hb hK hP hD hS 3 0 rfl rfl hi_26 dX12_deliver_94 (fun H locs hP hD hS => ?_)
              have hP : va_P E.1 vwCl [(h0, .inr (12, mG q i_taped i_size i_sort i_what i_at i_end i_worth i_faultKind i_faultPlace i_got i_worked (nI dl) i_isPlanned i_bestDone i_bestCost)), (q 42, .inl (E.2.1 0, 7, .inl f_27)), (q 43, .inl (E.2.1 0, 7, .inl f_29)), (q 44, .inl (E.2.1 0, 7, .inl (upd a_dDays (nI dl).toNatClampNeg le))), (q 45, .inl (E.2.1 0, 7, .inl a_dFirst)), (q 46, .inl (E.2.1 0, 7, .inl a_dLast))] H := hP
              have hD : va_D A [(h0, .inr (12, mG q i_taped i_size i_sort i_what i_at i_end i_worth i_faultKind i_faultPlace i_got i_worked (nI dl) i_isPlanned i_bestDone i_bestCost)), (q 42, .inl (E.2.1 0, 7, .inl f_27)), (q 43, .inl (E.2.1 0, 7, .inl f_29)), (q 44, .inl (E.2.1 0, 7, .inl (upd a_dDays (nI dl).toNatClampNeg le))), (q 45, .inl (E.2.1 0, 7, .inl a_dFirst)), (q 46, .inl (E.2.1 0, 7, .inl a_dLast))] := hD
              obtain ⟨f_31, ef_31⟩ : ∃ g : Nat → Int32, g = upd a_dDays (nI dl).toNatClampNeg le := ⟨_, rfl⟩
              rw [← ef_31] at hP hD
              refine lv_aload_n hx hb dX12_deliver_95 rfl (lv_at hl 0 rfl) ?_
              refine va_get (D := E.1) (ci := 12) (v := .ref (q 45)) (C := RX12) (T := TX12) (N := 59) hx hb hts inX12 hown hK hP 0 rfl rfl 45 (by decide) fl115 (fun _ h9 => h9) rfl dX12_deliver_96 ?_
              refine lv_aload_n hx hb dX12_deliver_99 rfl (lv_at hl 0 rfl) ?_
              refine va_get (D := E.1) (ci := 12) (v := .int (nI dl)) (C := RX12) (T := TX12) (N := 59) hx hb hts inX12 hown hK hP 0 rfl rfl 41 (by decide) fl289 (fun _ h9 => h9) rfl dX12_deliver_100 ?_
              refine lv_iload hx hb dX12_deliver_103 (lv_at hl 4 rfl) ?_
              refine va_iast hx hb hK hP hD hS 4 0 rfl rfl hi_26 dX12_deliver_105 (fun H locs hP hD hS => ?_)
              have hP : va_P E.1 vwCl [(h0, .inr (12, mG q i_taped i_size i_sort i_what i_at i_end i_worth i_faultKind i_faultPlace i_got i_worked (nI dl) i_isPlanned i_bestDone i_bestCost)), (q 42, .inl (E.2.1 0, 7, .inl f_27)), (q 43, .inl (E.2.1 0, 7, .inl f_29)), (q 44, .inl (E.2.1 0, 7, .inl f_31)), (q 45, .inl (E.2.1 0, 7, .inl (upd a_dFirst (nI dl).toNatClampNeg fi))), (q 46, .inl (E.2.1 0, 7, .inl a_dLast))] H := hP
              have hD : va_D A [(h0, .inr (12, mG q i_taped i_size i_sort i_what i_at i_end i_worth i_faultKind i_faultPlace i_got i_worked (nI dl) i_isPlanned i_bestDone i_bestCost)), (q 42, .inl (E.2.1 0, 7, .inl f_27)), (q 43, .inl (E.2.1 0, 7, .inl f_29)), (q 44, .inl (E.2.1 0, 7, .inl f_31)), (q 45, .inl (E.2.1 0, 7, .inl (upd a_dFirst (nI dl).toNatClampNeg fi))), (q 46, .inl (E.2.1 0, 7, .inl a_dLast))] := hD
              obtain ⟨f_32, ef_32⟩ : ∃ g : Nat → Int32, g = upd a_dFirst (nI dl).toNatClampNeg fi := ⟨_, rfl⟩
              rw [← ef_32] at hP hD
              refine lv_aload_n hx hb dX12_deliver_106 rfl (lv_at hl 0 rfl) ?_
              refine va_get (D := E.1) (ci := 12) (v := .ref (q 46)) (C := RX12) (T := TX12) (N := 59) hx hb hts inX12 hown hK hP 0 rfl rfl 46 (by decide) fl118 (fun _ h9 => h9) rfl dX12_deliver_107 ?_
              refine lv_aload_n hx hb dX12_deliver_110 rfl (lv_at hl 0 rfl) ?_
              refine va_get (D := E.1) (ci := 12) (v := .int (nI dl)) (C := RX12) (T := TX12) (N := 59) hx hb hts inX12 hown hK hP 0 rfl rfl 41 (by decide) fl289 (fun _ h9 => h9) rfl dX12_deliver_111 ?_
              refine lv_iload hx hb dX12_deliver_114 (lv_at hl 5 rfl) ?_
              refine va_iast hx hb hK hP hD hS 5 0 rfl rfl hi_26 dX12_deliver_116 (fun H locs hP hD hS => ?_)
              have hP : va_P E.1 vwCl [(h0, .inr (12, mG q i_taped i_size i_sort i_what i_at i_end i_worth i_faultKind i_faultPlace i_got i_worked (nI dl) i_isPlanned i_bestDone i_bestCost)), (q 42, .inl (E.2.1 0, 7, .inl f_27)), (q 43, .inl (E.2.1 0, 7, .inl f_29)), (q 44, .inl (E.2.1 0, 7, .inl f_31)), (q 45, .inl (E.2.1 0, 7, .inl f_32)), (q 46, .inl (E.2.1 0, 7, .inl (upd a_dLast (nI dl).toNatClampNeg la)))] H := hP
              have hD : va_D A [(h0, .inr (12, mG q i_taped i_size i_sort i_what i_at i_end i_worth i_faultKind i_faultPlace i_got i_worked (nI dl) i_isPlanned i_bestDone i_bestCost)), (q 42, .inl (E.2.1 0, 7, .inl f_27)), (q 43, .inl (E.2.1 0, 7, .inl f_29)), (q 44, .inl (E.2.1 0, 7, .inl f_31)), (q 45, .inl (E.2.1 0, 7, .inl f_32)), (q 46, .inl (E.2.1 0, 7, .inl (upd a_dLast (nI dl).toNatClampNeg la)))] := hD
              obtain ⟨f_33, ef_33⟩ : ∃ g : Nat → Int32, g = upd a_dLast (nI dl).toNatClampNeg la := ⟨_, rfl⟩
              rw [← ef_33] at hP hD
              refine lv_aload_n hx hb dX12_deliver_117 rfl (lv_at hl 0 rfl) ?_
              refine lv_dup hx hb dX12_deliver_118 rfl ?_
              refine va_get (D := E.1) (ci := 12) (v := .int (nI dl)) (C := RX12) (T := TX12) (N := 59) hx hb hts inX12 hown hK hP 0 rfl rfl 41 (by decide) fl289 (fun _ h9 => h9) rfl dX12_deliver_119 ?_
              refine lv_iconst (v := 1) hx hb dX12_deliver_122 (by decide) ?_
              refine lv_iadd hx hb dX12_deliver_123 ?_
              refine lv_topi (fun x_34 ex_34 => ?_)
              obtain rfl : x_34 = nI (dl + 1) := ex_34.trans (nI_1 _)
              refine va_put (D := E.1) (ci := 12) (v := .int (nI (dl + 1))) (ty := .int) (C := RX12) (T := TX12) (N := 59) hx hb hts inX12 tyX12 tyX12_ok nmX12 hown hK hP hD hS 0 rfl rfl 41 (by decide) fl289 (fun _ h9 => h9) rfl (by decide +kernel) rfl rfl (Nat.le_of_ble_eq_true rfl) dX12_deliver_124 (fun H locs hP hD hS => ?_)
              have hP : va_P E.1 vwCl [(h0, .inr (12, mG q i_taped i_size i_sort i_what i_at i_end i_worth i_faultKind i_faultPlace i_got i_worked (nI (dl + 1)) i_isPlanned i_bestDone i_bestCost)), (q 42, .inl (E.2.1 0, 7, .inl f_27)), (q 43, .inl (E.2.1 0, 7, .inl f_29)), (q 44, .inl (E.2.1 0, 7, .inl f_31)), (q 45, .inl (E.2.1 0, 7, .inl f_32)), (q 46, .inl (E.2.1 0, 7, .inl f_33))] H := hP
              have hD : va_D A [(h0, .inr (12, mG q i_taped i_size i_sort i_what i_at i_end i_worth i_faultKind i_faultPlace i_got i_worked (nI (dl + 1)) i_isPlanned i_bestDone i_bestCost)), (q 42, .inl (E.2.1 0, 7, .inl f_27)), (q 43, .inl (E.2.1 0, 7, .inl f_29)), (q 44, .inl (E.2.1 0, 7, .inl f_31)), (q 45, .inl (E.2.1 0, 7, .inl f_32)), (q 46, .inl (E.2.1 0, 7, .inl f_33))] := hD
              refine lv_aload_n hx hb dX12_deliver_127 rfl (lv_at hl 0 rfl) ?_
              refine lv_iconst (v := 0) hx hb dX12_deliver_128 (by decide) ?_
              refine va_put (D := E.1) (ci := 12) (v := .int 0) (ty := .boolean) (C := RX12) (T := TX12) (N := 59) hx hb hts inX12 tyX12 tyX12_ok nmX12 hown hK hP hD hS 0 rfl rfl 50 (by decide) fl292 (fun _ h9 => h9) rfl (by decide +kernel) (by first | rfl | decide) (by first | rfl | decide) (Nat.le_of_ble_eq_true rfl) dX12_deliver_129 (fun H locs hP hD hS => ?_)
              have hP : va_P E.1 vwCl [(h0, .inr (12, mG q i_taped i_size i_sort i_what i_at i_end i_worth i_faultKind i_faultPlace i_got i_worked (nI (dl + 1)) 0 i_bestDone i_bestCost)), (q 42, .inl (E.2.1 0, 7, .inl f_27)), (q 43, .inl (E.2.1 0, 7, .inl f_29)), (q 44, .inl (E.2.1 0, 7, .inl f_31)), (q 45, .inl (E.2.1 0, 7, .inl f_32)), (q 46, .inl (E.2.1 0, 7, .inl f_33))] H := hP
              have hD : va_D A [(h0, .inr (12, mG q i_taped i_size i_sort i_what i_at i_end i_worth i_faultKind i_faultPlace i_got i_worked (nI (dl + 1)) 0 i_bestDone i_bestCost)), (q 42, .inl (E.2.1 0, 7, .inl f_27)), (q 43, .inl (E.2.1 0, 7, .inl f_29)), (q 44, .inl (E.2.1 0, 7, .inl f_31)), (q 45, .inl (E.2.1 0, 7, .inl f_32)), (q 46, .inl (E.2.1 0, 7, .inl f_33))] := hD
              refine lv_aload_n hx hb dX12_deliver_132 rfl (lv_at hl 0 rfl) ?_
              refine va_get (D := E.1) (ci := 12) (v := .int (nI (dl + 1))) (C := RX12) (T := TX12) (N := 59) hx hb hts inX12 hown hK hP 0 rfl rfl 41 (by decide) fl289 (fun _ h9 => h9) rfl dX12_deliver_133 ?_
              refine lv_iconst (v := 1) hx hb dX12_deliver_136 (by decide) ?_
              refine lv_isub hx hb dX12_deliver_137 ?_
              refine lv_topi (fun x_35 ex_35 => ?_)
              have hP9 := hP.sub (ws' := [(h0, .inr (12, mG q i_taped i_size i_sort i_what i_at i_end i_worth i_faultKind i_faultPlace i_got i_worked (nI (dl + 1)) 0 i_bestDone i_bestCost)), (q 42, .inl (E.2.1 0, 7, .inl f_27)), (q 43, .inl (E.2.1 0, 7, .inl f_29)), (q 44, .inl (E.2.1 0, 7, .inl f_31)), (q 45, .inl (E.2.1 0, 7, .inl f_32)), (q 46, .inl (E.2.1 0, 7, .inl f_33))]) [0, 1, 2, 3, 4, 5] rfl
              have hD9 := hD.sub (ws' := [(h0, .inr (12, mG q i_taped i_size i_sort i_what i_at i_end i_worth i_faultKind i_faultPlace i_got i_worked (nI (dl + 1)) 0 i_bestDone i_bestCost)), (q 42, .inl (E.2.1 0, 7, .inl f_27)), (q 43, .inl (E.2.1 0, 7, .inl f_29)), (q 44, .inl (E.2.1 0, 7, .inl f_31)), (q 45, .inl (E.2.1 0, 7, .inl f_32)), (q 46, .inl (E.2.1 0, 7, .inl f_33))]) [0, 1, 2, 3, 4, 5] (by decide) rfl
              exact W.iret (v := x_35) hx hb hr (fun t ht hW => ⟨⟨x_35, ((dl + 1), 0, f_27, f_29, f_31, f_32, f_33), rfl, Or.inl ⟨(by first | (rw [b_5, b_10, b_15, b_20, b_24]; done) | (rw [b_5, b_10, b_15, b_20, b_24]; rfl)), hd7, (by rw [ex_35]; exact nI_pred dl), rfl⟩, hI_28, hI_30, (by omega), by rw [ht]; exact hP9, hD9⟩, hS.F ht⟩) hS.2.2 dX12_deliver_138
            · refine lv_bipush (v := (-3)) hx hb dX12_deliver_62 (by decide) ?_
              have hP9 := hP.sub (ws' := [(h0, .inr (12, mG q i_taped i_size i_sort i_what i_at i_end i_worth i_faultKind i_faultPlace i_got i_worked (nI dl) i_isPlanned i_bestDone i_bestCost)), (q 42, .inl (E.2.1 0, 7, .inl a_dFrom)), (q 43, .inl (E.2.1 0, 7, .inl a_dTo)), (q 44, .inl (E.2.1 0, 7, .inl a_dDays)), (q 45, .inl (E.2.1 0, 7, .inl a_dFirst)), (q 46, .inl (E.2.1 0, 7, .inl a_dLast))]) [0, 1, 2, 3, 4, 5] rfl
              have hD9 := hD.sub (ws' := [(h0, .inr (12, mG q i_taped i_size i_sort i_what i_at i_end i_worth i_faultKind i_faultPlace i_got i_worked (nI dl) i_isPlanned i_bestDone i_bestCost)), (q 42, .inl (E.2.1 0, 7, .inl a_dFrom)), (q 43, .inl (E.2.1 0, 7, .inl a_dTo)), (q 44, .inl (E.2.1 0, 7, .inl a_dDays)), (q 45, .inl (E.2.1 0, 7, .inl a_dFirst)), (q 46, .inl (E.2.1 0, 7, .inl a_dLast))]) [0, 1, 2, 3, 4, 5] (by decide) rfl
              exact W.iret (v := (-3)) hx hb hr (fun t ht hW => ⟨⟨(-3), (dl, i_isPlanned, a_dFrom, a_dTo, a_dDays, a_dFirst, a_dLast), rfl, Or.inr (Or.inl ⟨(by first | (rw [b_5, b_10, b_15, b_20, b_24]; done) | (rw [b_5, b_10, b_15, b_20, b_24]; rfl)), (nI_eq (b := 7) (by omega) (by decide)).mp c_25, rfl, rfl⟩), hI_dFrom, hI_dTo, (by omega), by rw [ht]; exact hP9, hD9⟩, hS.F ht⟩) hS.2.2 dX12_deliver_64
          · have b_36 : inR la fi 999 = false := bz hw_22 c_23
            refine lv_bipush (v := (-2)) hx hb dX12_deliver_50 (by decide) ?_
            have hP9 := hP.sub (ws' := [(h0, .inr (12, mG q i_taped i_size i_sort i_what i_at i_end i_worth i_faultKind i_faultPlace i_got i_worked (nI dl) i_isPlanned i_bestDone i_bestCost)), (q 42, .inl (E.2.1 0, 7, .inl a_dFrom)), (q 43, .inl (E.2.1 0, 7, .inl a_dTo)), (q 44, .inl (E.2.1 0, 7, .inl a_dDays)), (q 45, .inl (E.2.1 0, 7, .inl a_dFirst)), (q 46, .inl (E.2.1 0, 7, .inl a_dLast))]) [0, 1, 2, 3, 4, 5] rfl
            have hD9 := hD.sub (ws' := [(h0, .inr (12, mG q i_taped i_size i_sort i_what i_at i_end i_worth i_faultKind i_faultPlace i_got i_worked (nI dl) i_isPlanned i_bestDone i_bestCost)), (q 42, .inl (E.2.1 0, 7, .inl a_dFrom)), (q 43, .inl (E.2.1 0, 7, .inl a_dTo)), (q 44, .inl (E.2.1 0, 7, .inl a_dDays)), (q 45, .inl (E.2.1 0, 7, .inl a_dFirst)), (q 46, .inl (E.2.1 0, 7, .inl a_dLast))]) [0, 1, 2, 3, 4, 5] (by decide) rfl
            exact W.iret (v := (-2)) hx hb hr (fun t ht hW => ⟨⟨(-2), (dl, i_isPlanned, a_dFrom, a_dTo, a_dDays, a_dFirst, a_dLast), rfl, Or.inr (Or.inr ⟨(by first | (rw [b_5, b_10, b_15, b_20, b_36]; done) | (rw [b_5, b_10, b_15, b_20, b_36]; rfl)), rfl, rfl⟩), hI_dFrom, hI_dTo, (by omega), by rw [ht]; exact hP9, hD9⟩, hS.F ht⟩) hS.2.2 dX12_deliver_52
set_option maxHeartbeats 4000000 in
set_option maxRecDepth 100000 in
theorem c_X12_crew (l : Launch) (E : vE) (h0 : Nat) (q : Nat → Nat) (i_taped : Int32) (i_size : Int32) (i_sort : Int32) (i_what : Int32) (i_at : Int32) (i_end : Int32) (i_worth : Int32) (i_faultKind : Int32) (i_faultPlace : Int32) (i_got : Int32) (i_worked : Int32) (i_deliveries : Int32) (i_isPlanned : Int32) (i_bestDone : Int32) (i_bestCost : Int32) (a_crewPort : Nat → Int32) (a_crewDay : Nat → Int32) (cr : Int32) (port : Int32) (day : Int32) (sz : Nat) (hI_crewPort : ∀ k : Nat, k < 4 → inR (a_crewPort k) (-1) 9 = true) : Met l yX12_crew wsX12_crew ({ frames := 2, cells := 0, slots := 0, locals := 42 }) (pcW E [.ref h0, .int cr, .int port, .int day] sz [(h0, .inr (12, mG q i_taped i_size i_sort i_what i_at i_end i_worth i_faultKind i_faultPlace i_got i_worked i_deliveries i_isPlanned i_bestDone i_bestCost)), (q 47, .inl (E.2.1 0, 4, .inl a_crewPort)), (q 48, .inl (E.2.1 0, 4, .inl a_crewDay))]) (va_Qi (fun (r : Int32) (u : Int32 × (Nat → Int32) × (Nat → Int32)) => match u with | (ip2, b_crewPort, b_crewDay) => r = cond (inR cr 0 3 && inR port 0 9 && inR day 0 999) 1 (-2)) (fun (u : Int32 × (Nat → Int32) × (Nat → Int32)) (t : State) => match u with | (ip2, b_crewPort, b_crewDay) => (∀ k : Nat, k < 4 → inR (b_crewPort k) (-1) 9 = true) ∧ wB E (va_A [(h0, .inr (12, mG q i_taped i_size i_sort i_what i_at i_end i_worth i_faultKind i_faultPlace i_got i_worked i_deliveries i_isPlanned i_bestDone i_bestCost)), (q 47, .inl (E.2.1 0, 4, .inl a_crewPort)), (q 48, .inl (E.2.1 0, 4, .inl a_crewDay))] sz) [(h0, .inr (12, mG q i_taped i_size i_sort i_what i_at i_end i_worth i_faultKind i_faultPlace i_got i_worked i_deliveries ip2 i_bestDone i_bestCost)), (q 47, .inl (E.2.1 0, 4, .inl b_crewPort)), (q 48, .inl (E.2.1 0, 4, .inl b_crewDay))] t) (va_A [(h0, .inr (12, mG q i_taped i_size i_sort i_what i_at i_end i_worth i_faultKind i_faultPlace i_got i_worked i_deliveries i_isPlanned i_bestDone i_bestCost)), (q 47, .inl (E.2.1 0, 4, .inl a_crewPort)), (q 48, .inl (E.2.1 0, 4, .inl a_crewDay))] sz)) 0 0 (va_A [(h0, .inr (12, mG q i_taped i_size i_sort i_what i_at i_end i_worth i_faultKind i_faultPlace i_got i_worked i_deliveries i_isPlanned i_bestDone i_bestCost)), (q 47, .inl (E.2.1 0, 4, .inl a_crewPort)), (q 48, .inl (E.2.1 0, 4, .inl a_crewDay))] sz) := by
  refine Met.ofW (cc := cX12_crew) (maxL := 4) (ret := (some .int)) (by decide) rfl ?_
  intro p e s m args below meth c s₁ B hml hv
  obtain ⟨rfl, hsz, hP, hkn, hD0, hst⟩ := hv
  have hx := B.exec
  have hb := B.bytes
  have hr := B.returns
  have hts := atoms_spec (ws := wsX12_crew) B.pre
  have hown : s.vm.findClass RX12 = some m.cls := findClass_of_methodNamed B.named
  have hlocks := B.notSynchronized
  subst hsz
  have hD := hD0.self (sz := s.heap.size)
  have hK := hkn.1
  have hAO := hkn.2.2.1
  generalize hAe : va_A [(h0, .inr (12, mG q i_taped i_size i_sort i_what i_at i_end i_worth i_faultKind i_faultPlace i_got i_worked i_deliveries i_isPlanned i_bestDone i_bestCost)), (q 47, .inl (E.2.1 0, 4, .inl a_crewPort)), (q 48, .inl (E.2.1 0, 4, .inl a_crewDay))] s.heap.size = A at hD hst ⊢
  have hA : ∀ q : Nat, s.heap.size ≤ q → A q := fun q h => by rw [← hAe]; exact Or.inr h
  have hS : va_S A s.heap s.heap [] := va_S.rf
  have hP : va_P E.1 vwCl [(h0, .inr (12, mG q i_taped i_size i_sort i_what i_at i_end i_worth i_faultKind i_faultPlace i_got i_worked i_deliveries i_isPlanned i_bestDone i_bestCost)), (q 47, .inl (E.2.1 0, 4, .inl a_crewPort)), (q 48, .inl (E.2.1 0, 4, .inl a_crewDay))] s.heap := hP
  have hl := lv_entry ([.ref h0, .int cr, .int port, .int day]) (n := 4) (Nat.le_of_ble_eq_true rfl)
  rw [lg_entry_eq]
  generalize (lg_sl ([.ref h0, .int cr, .int port, .int day]) ++ List.replicate (4 - (lg_sl ([.ref h0, .int cr, .int port, .int day])).length) Slot.unset).toArray = ls at hl ⊢
  have hl : lv_has ls 4 [(0, .ref h0), (1, .int cr), (2, .int port), (3, .int day)] := hl
  have fl121 := hts (.fieldLink RX12 121 "BoatsHomeModel" "crewPort" "[I") (by first | exact List.mem_of_getElem? (i := 1) rfl | decide +kernel)
  have fl124 := hts (.fieldLink RX12 124 "BoatsHomeModel" "crewDay" "[I") (by first | exact List.mem_of_getElem? (i := 2) rfl | decide +kernel)
  have fl292 := hts (.fieldLink RX12 292 "BoatsHomeModel" "isPlanned" "Z") (by first | exact List.mem_of_getElem? (i := 3) rfl | decide +kernel)
  have inX12 : ∀ w ∈ u_ws RX12 TX12 59, w ∈ wsX12_crew := by first | exact fun w h9 => (List.mem_cons_of_mem _ (List.mem_append_right _ h9)) | decide +kernel
  refine lv_iload_n hx hb dX12_crew_0 rfl (lv_at hl 1 rfl) ?_
  refine lv_iconst (v := 0) hx hb dX12_crew_1 (by decide) ?_
  refine lv_iconst (v := 3) hx hb dX12_crew_2 (by decide) ?_
  have hPc := hP.sub (ws' := []) [] rfl
  have hDc := hD.sub (ws' := []) [] (by decide) rfl
  have hFc := va_free (wc := []) hD hS hA [] rfl
  refine va_calli (va_runS (As := [.int cr, .int 0, .int 3]) (rest := []) ⟨hx, hb, hml, hown, hts⟩ (c_X12_in l E cr 0 3 s.heap.size ) (va_cwS 3 hts gX12_crew_X12_in rfl rfl rfl hdS_X12_in ⟨Nat.le_of_ble_eq_true rfl, Nat.le_of_ble_eq_true rfl⟩) ⟨pcW_blind, (pcW_pre hPc hkn hDc hst hS hFc)⟩ rfl rfl hl.1 rfl (lv_room (Nat.le_of_ble_eq_true rfl)) dX12_crew_3 ⟨Nat.le_of_ble_eq_true rfl, Nat.le_of_ble_eq_true rfl⟩) hS (fun q _ h => hFc q h) hFc (fun r_1 u t H1 locs ht hvm hw_2 hB hz1 hk1 hS => ?_)
  obtain ⟨hP1, hD1⟩ := hB
  rw [ht] at hP1
  try dsimp only at hw_2
  obtain ⟨hP, hD⟩ := va_join (wr := [(h0, .inr (12, mG q i_taped i_size i_sort i_what i_at i_end i_worth i_faultKind i_faultPlace i_got i_worked i_deliveries i_isPlanned i_bestDone i_bestCost)), (q 47, .inl (E.2.1 0, 4, .inl a_crewPort)), (q 48, .inl (E.2.1 0, 4, .inl a_crewDay))]) (w1 := []) hP hD [] [0, 1, 2] rfl rfl (by decide) (by decide) hk1 hFc hP1 hD1
  generalize H1 = H at hP hS ⊢
  have hP : va_P E.1 vwCl [(h0, .inr (12, mG q i_taped i_size i_sort i_what i_at i_end i_worth i_faultKind i_faultPlace i_got i_worked i_deliveries i_isPlanned i_bestDone i_bestCost)), (q 47, .inl (E.2.1 0, 4, .inl a_crewPort)), (q 48, .inl (E.2.1 0, 4, .inl a_crewDay))] H := hP
  have hD : va_D A [(h0, .inr (12, mG q i_taped i_size i_sort i_what i_at i_end i_worth i_faultKind i_faultPlace i_got i_worked i_deliveries i_isPlanned i_bestDone i_bestCost)), (q 47, .inl (E.2.1 0, 4, .inl a_crewPort)), (q 48, .inl (E.2.1 0, 4, .inl a_crewDay))] := hD
  refine lv_if_eq (tgt := 27) hx hb dX12_crew_6 (by decide) (fun c_3 => ?_) (fun c_3 => ?_)
  · have b_4 : inR cr 0 3 = false := bz hw_2 c_3
    refine lv_bipush (v := (-2)) hx hb dX12_crew_27 (by decide) ?_
    have hP9 := hP.sub (ws' := [(h0, .inr (12, mG q i_taped i_size i_sort i_what i_at i_end i_worth i_faultKind i_faultPlace i_got i_worked i_deliveries i_isPlanned i_bestDone i_bestCost)), (q 47, .inl (E.2.1 0, 4, .inl a_crewPort)), (q 48, .inl (E.2.1 0, 4, .inl a_crewDay))]) [0, 1, 2] rfl
    have hD9 := hD.sub (ws' := [(h0, .inr (12, mG q i_taped i_size i_sort i_what i_at i_end i_worth i_faultKind i_faultPlace i_got i_worked i_deliveries i_isPlanned i_bestDone i_bestCost)), (q 47, .inl (E.2.1 0, 4, .inl a_crewPort)), (q 48, .inl (E.2.1 0, 4, .inl a_crewDay))]) [0, 1, 2] (by decide) rfl
    exact W.iret (v := (-2)) hx hb hr (fun t ht hW => ⟨⟨(-2), (i_isPlanned, a_crewPort, a_crewDay), rfl, (by first | (rw [b_4]; done) | (rw [b_4]; rfl)), hI_crewPort, by rw [ht]; exact hP9, hD9⟩, hS.F ht⟩) hS.2.2 dX12_crew_29
  · have b_5 : inR cr 0 3 = true := bn hw_2 c_3
    refine lv_iload_n hx hb dX12_crew_9 rfl (lv_at hl 2 rfl) ?_
    have hPc := hP.sub (ws' := []) [] rfl
    have hDc := hD.sub (ws' := []) [] (by decide) rfl
    have hFc := va_free (wc := []) hD hS hA [] rfl
    refine va_calli (va_runS (As := [.int port]) (rest := []) ⟨hx, hb, hml, hown, hts⟩ (c_X12_isPort l E port H.size ) (va_cwS 1 hts gX12_crew_X12_isPort rfl rfl rfl hdS_X12_isPort ⟨Nat.le_of_ble_eq_true rfl, Nat.le_of_ble_eq_true rfl⟩) ⟨pcW_blind, (pcW_pre hPc hkn hDc hst hS hFc)⟩ rfl rfl hl.1 rfl (lv_room (Nat.le_of_ble_eq_true rfl)) dX12_crew_10 ⟨Nat.le_of_ble_eq_true rfl, Nat.le_of_ble_eq_true rfl⟩) hS (fun q _ h => hFc q h) hFc (fun r_6 u t H1 locs ht hvm hw_7 hB hz1 hk1 hS => ?_)
    obtain ⟨hP1, hD1⟩ := hB
    rw [ht] at hP1
    try dsimp only at hw_7
    obtain ⟨hP, hD⟩ := va_join (wr := [(h0, .inr (12, mG q i_taped i_size i_sort i_what i_at i_end i_worth i_faultKind i_faultPlace i_got i_worked i_deliveries i_isPlanned i_bestDone i_bestCost)), (q 47, .inl (E.2.1 0, 4, .inl a_crewPort)), (q 48, .inl (E.2.1 0, 4, .inl a_crewDay))]) (w1 := []) hP hD [] [0, 1, 2] rfl rfl (by decide) (by decide) hk1 hFc hP1 hD1
    generalize H1 = H at hP hS ⊢
    have hP : va_P E.1 vwCl [(h0, .inr (12, mG q i_taped i_size i_sort i_what i_at i_end i_worth i_faultKind i_faultPlace i_got i_worked i_deliveries i_isPlanned i_bestDone i_bestCost)), (q 47, .inl (E.2.1 0, 4, .inl a_crewPort)), (q 48, .inl (E.2.1 0, 4, .inl a_crewDay))] H := hP
    have hD : va_D A [(h0, .inr (12, mG q i_taped i_size i_sort i_what i_at i_end i_worth i_faultKind i_faultPlace i_got i_worked i_deliveries i_isPlanned i_bestDone i_bestCost)), (q 47, .inl (E.2.1 0, 4, .inl a_crewPort)), (q 48, .inl (E.2.1 0, 4, .inl a_crewDay))] := hD
    refine lv_if_eq (tgt := 27) hx hb dX12_crew_13 (by decide) (fun c_8 => ?_) (fun c_8 => ?_)
    · have b_9 : inR port 0 9 = false := bz hw_7 c_8
      refine lv_bipush (v := (-2)) hx hb dX12_crew_27 (by decide) ?_
      have hP9 := hP.sub (ws' := [(h0, .inr (12, mG q i_taped i_size i_sort i_what i_at i_end i_worth i_faultKind i_faultPlace i_got i_worked i_deliveries i_isPlanned i_bestDone i_bestCost)), (q 47, .inl (E.2.1 0, 4, .inl a_crewPort)), (q 48, .inl (E.2.1 0, 4, .inl a_crewDay))]) [0, 1, 2] rfl
      have hD9 := hD.sub (ws' := [(h0, .inr (12, mG q i_taped i_size i_sort i_what i_at i_end i_worth i_faultKind i_faultPlace i_got i_worked i_deliveries i_isPlanned i_bestDone i_bestCost)), (q 47, .inl (E.2.1 0, 4, .inl a_crewPort)), (q 48, .inl (E.2.1 0, 4, .inl a_crewDay))]) [0, 1, 2] (by decide) rfl
      exact W.iret (v := (-2)) hx hb hr (fun t ht hW => ⟨⟨(-2), (i_isPlanned, a_crewPort, a_crewDay), rfl, (by first | (rw [b_5, b_9]; done) | (rw [b_5, b_9]; rfl)), hI_crewPort, by rw [ht]; exact hP9, hD9⟩, hS.F ht⟩) hS.2.2 dX12_crew_29
    · have b_10 : inR port 0 9 = true := bn hw_7 c_8
      refine lv_iload_n hx hb dX12_crew_16 rfl (lv_at hl 3 rfl) ?_
      refine lv_iconst (v := 0) hx hb dX12_crew_17 (by decide) ?_
      refine lv_sipush (v := 999) hx hb dX12_crew_18 (by decide) ?_
      have hPc := hP.sub (ws' := []) [] rfl
      have hDc := hD.sub (ws' := []) [] (by decide) rfl
      have hFc := va_free (wc := []) hD hS hA [] rfl
      refine va_calli (va_runS (As := [.int day, .int 0, .int 999]) (rest := []) ⟨hx, hb, hml, hown, hts⟩ (c_X12_in l E day 0 999 H.size ) (va_cwS 3 hts gX12_crew_X12_in rfl rfl rfl hdS_X12_in ⟨Nat.le_of_ble_eq_true rfl, Nat.le_of_ble_eq_true rfl⟩) ⟨pcW_blind, (pcW_pre hPc hkn hDc hst hS hFc)⟩ rfl rfl hl.1 rfl (lv_room (Nat.le_of_ble_eq_true rfl)) dX12_crew_21 ⟨Nat.le_of_ble_eq_true rfl, Nat.le_of_ble_eq_true rfl⟩) hS (fun q _ h => hFc q h) hFc (fun r_11 u t H1 locs ht hvm hw_12 hB hz1 hk1 hS => ?_)
      obtain ⟨hP1, hD1⟩ := hB
      rw [ht] at hP1
      try dsimp only at hw_12
      obtain ⟨hP, hD⟩ := va_join (wr := [(h0, .inr (12, mG q i_taped i_size i_sort i_what i_at i_end i_worth i_faultKind i_faultPlace i_got i_worked i_deliveries i_isPlanned i_bestDone i_bestCost)), (q 47, .inl (E.2.1 0, 4, .inl a_crewPort)), (q 48, .inl (E.2.1 0, 4, .inl a_crewDay))]) (w1 := []) hP hD [] [0, 1, 2] rfl rfl (by decide) (by decide) hk1 hFc hP1 hD1
      generalize H1 = H at hP hS ⊢
      have hP : va_P E.1 vwCl [(h0, .inr (12, mG q i_taped i_size i_sort i_what i_at i_end i_worth i_faultKind i_faultPlace i_got i_worked i_deliveries i_isPlanned i_bestDone i_bestCost)), (q 47, .inl (E.2.1 0, 4, .inl a_crewPort)), (q 48, .inl (E.2.1 0, 4, .inl a_crewDay))] H := hP
      have hD : va_D A [(h0, .inr (12, mG q i_taped i_size i_sort i_what i_at i_end i_worth i_faultKind i_faultPlace i_got i_worked i_deliveries i_isPlanned i_bestDone i_bestCost)), (q 47, .inl (E.2.1 0, 4, .inl a_crewPort)), (q 48, .inl (E.2.1 0, 4, .inl a_crewDay))] := hD
      refine lv_if_ne (tgt := 30) hx hb dX12_crew_24 (by decide) (fun c_13 => ?_) (fun c_13 => ?_)
      · have b_14 : inR day 0 999 = true := bn hw_12 c_13
        refine lv_aload_n hx hb dX12_crew_30 rfl (lv_at hl 0 rfl) ?_
        refine va_get (D := E.1) (ci := 12) (v := .ref (q 47)) (C := RX12) (T := TX12) (N := 59) hx hb hts inX12 hown hK hP 0 rfl rfl 47 (by decide) fl121 (fun _ h9 => h9) rfl dX12_crew_31 ?_
        refine lv_iload_n hx hb dX12_crew_34 rfl (lv_at hl 1 rfl) ?_
        refine lv_iload_n hx hb dX12_crew_35 rfl (lv_at hl 2 rfl) ?_
        have hi_15 : vp_in cr 4 := inR_in (by decide) b_5
        refine va_iast hx hb hK hP hD hS 1 0 rfl rfl hi_15 dX12_crew_36 (fun H locs hP hD hS => ?_)
        have hP : va_P E.1 vwCl [(h0, .inr (12, mG q i_taped i_size i_sort i_what i_at i_end i_worth i_faultKind i_faultPlace i_got i_worked i_deliveries i_isPlanned i_bestDone i_bestCost)), (q 47, .inl (E.2.1 0, 4, .inl (upd a_crewPort cr.toNatClampNeg port))), (q 48, .inl (E.2.1 0, 4, .inl a_crewDay))] H := hP
        have hD : va_D A [(h0, .inr (12, mG q i_taped i_size i_sort i_what i_at i_end i_worth i_faultKind i_faultPlace i_got i_worked i_deliveries i_isPlanned i_bestDone i_bestCost)), (q 47, .inl (E.2.1 0, 4, .inl (upd a_crewPort cr.toNatClampNeg port))), (q 48, .inl (E.2.1 0, 4, .inl a_crewDay))] := hD
        obtain ⟨f_16, ef_16⟩ : ∃ g : Nat → Int32, g = upd a_crewPort cr.toNatClampNeg port := ⟨_, rfl⟩
        rw [← ef_16] at hP hD
        have hI_17 : ∀ k : Nat, k < 4 → inR (f_16 k) (-1) 9 = true := by rw [ef_16]; exact all_upd (P := fun z => inR z (-1) 9 = true) hI_crewPort (cp_of b_10)
        refine lv_aload_n hx hb dX12_crew_37 rfl (lv_at hl 0 rfl) ?_
        refine va_get (D := E.1) (ci := 12) (v := .ref (q 48)) (C := RX12) (T := TX12) (N := 59) hx hb hts inX12 hown hK hP 0 rfl rfl 48 (by decide) fl124 (fun _ h9 => h9) rfl dX12_crew_38 ?_
        refine lv_iload_n hx hb dX12_crew_41 rfl (lv_at hl 1 rfl) ?_
        refine lv_iload_n hx hb dX12_crew_42 rfl (lv_at hl 3 rfl) ?_
        refine va_iast hx hb hK hP hD hS 2 0 rfl rfl hi_15 dX12_crew_43 (fun H locs hP hD hS => ?_)
        have hP : va_P E.1 vwCl [(h0, .inr (12, mG q i_taped i_size i_sort i_what i_at i_end i_worth i_faultKind i_faultPlace i_got i_worked i_deliveries i_isPlanned i_bestDone i_bestCost)), (q 47, .inl (E.2.1 0, 4, .inl f_16)), (q 48, .inl (E.2.1 0, 4, .inl (upd a_crewDay cr.toNatClampNeg day)))] H := hP
        have hD : va_D A [(h0, .inr (12, mG q i_taped i_size i_sort i_what i_at i_end i_worth i_faultKind i_faultPlace i_got i_worked i_deliveries i_isPlanned i_bestDone i_bestCost)), (q 47, .inl (E.2.1 0, 4, .inl f_16)), (q 48, .inl (E.2.1 0, 4, .inl (upd a_crewDay cr.toNatClampNeg day)))] := hD
        obtain ⟨f_18, ef_18⟩ : ∃ g : Nat → Int32, g = upd a_crewDay cr.toNatClampNeg day := ⟨_, rfl⟩
        rw [← ef_18] at hP hD
        refine lv_aload_n hx hb dX12_crew_44 rfl (lv_at hl 0 rfl) ?_
        refine lv_iconst (v := 0) hx hb dX12_crew_45 (by decide) ?_
        refine va_put (D := E.1) (ci := 12) (v := .int 0) (ty := .boolean) (C := RX12) (T := TX12) (N := 59) hx hb hts inX12 tyX12 tyX12_ok nmX12 hown hK hP hD hS 0 rfl rfl 50 (by decide) fl292 (fun _ h9 => h9) rfl (by decide +kernel) (by first | rfl | decide) (by first | rfl | decide) (Nat.le_of_ble_eq_true rfl) dX12_crew_46 (fun H locs hP hD hS => ?_)
        have hP : va_P E.1 vwCl [(h0, .inr (12, mG q i_taped i_size i_sort i_what i_at i_end i_worth i_faultKind i_faultPlace i_got i_worked i_deliveries 0 i_bestDone i_bestCost)), (q 47, .inl (E.2.1 0, 4, .inl f_16)), (q 48, .inl (E.2.1 0, 4, .inl f_18))] H := hP
        have hD : va_D A [(h0, .inr (12, mG q i_taped i_size i_sort i_what i_at i_end i_worth i_faultKind i_faultPlace i_got i_worked i_deliveries 0 i_bestDone i_bestCost)), (q 47, .inl (E.2.1 0, 4, .inl f_16)), (q 48, .inl (E.2.1 0, 4, .inl f_18))] := hD
        refine lv_iconst (v := 1) hx hb dX12_crew_49 (by decide) ?_
        have hP9 := hP.sub (ws' := [(h0, .inr (12, mG q i_taped i_size i_sort i_what i_at i_end i_worth i_faultKind i_faultPlace i_got i_worked i_deliveries 0 i_bestDone i_bestCost)), (q 47, .inl (E.2.1 0, 4, .inl f_16)), (q 48, .inl (E.2.1 0, 4, .inl f_18))]) [0, 1, 2] rfl
        have hD9 := hD.sub (ws' := [(h0, .inr (12, mG q i_taped i_size i_sort i_what i_at i_end i_worth i_faultKind i_faultPlace i_got i_worked i_deliveries 0 i_bestDone i_bestCost)), (q 47, .inl (E.2.1 0, 4, .inl f_16)), (q 48, .inl (E.2.1 0, 4, .inl f_18))]) [0, 1, 2] (by decide) rfl
        exact W.iret (v := 1) hx hb hr (fun t ht hW => ⟨⟨1, (0, f_16, f_18), rfl, (by first | (rw [b_5, b_10, b_14]; done) | (rw [b_5, b_10, b_14]; rfl)), hI_17, by rw [ht]; exact hP9, hD9⟩, hS.F ht⟩) hS.2.2 dX12_crew_50
      · have b_19 : inR day 0 999 = false := bz hw_12 c_13
        refine lv_bipush (v := (-2)) hx hb dX12_crew_27 (by decide) ?_
        have hP9 := hP.sub (ws' := [(h0, .inr (12, mG q i_taped i_size i_sort i_what i_at i_end i_worth i_faultKind i_faultPlace i_got i_worked i_deliveries i_isPlanned i_bestDone i_bestCost)), (q 47, .inl (E.2.1 0, 4, .inl a_crewPort)), (q 48, .inl (E.2.1 0, 4, .inl a_crewDay))]) [0, 1, 2] rfl
        have hD9 := hD.sub (ws' := [(h0, .inr (12, mG q i_taped i_size i_sort i_what i_at i_end i_worth i_faultKind i_faultPlace i_got i_worked i_deliveries i_isPlanned i_bestDone i_bestCost)), (q 47, .inl (E.2.1 0, 4, .inl a_crewPort)), (q 48, .inl (E.2.1 0, 4, .inl a_crewDay))]) [0, 1, 2] (by decide) rfl
        exact W.iret (v := (-2)) hx hb hr (fun t ht hW => ⟨⟨(-2), (i_isPlanned, a_crewPort, a_crewDay), rfl, (by first | (rw [b_5, b_10, b_19]; done) | (rw [b_5, b_10, b_19]; rfl)), hI_crewPort, by rw [ht]; exact hP9, hD9⟩, hS.F ht⟩) hS.2.2 dX12_crew_29
set_option maxHeartbeats 4000000 in
set_option maxRecDepth 100000 in
theorem c_X12_flight (l : Launch) (E : vE) (h0 : Nat) (q : Nat → Nat) (i_taped : Int32) (i_size : Int32) (i_sort : Int32) (i_what : Int32) (i_at : Int32) (i_end : Int32) (i_worth : Int32) (i_faultKind : Int32) (i_faultPlace : Int32) (i_got : Int32) (i_worked : Int32) (i_deliveries : Int32) (i_isPlanned : Int32) (i_bestDone : Int32) (i_bestCost : Int32) (a_flights : Nat → Int32) (pp : Int32) (qq : Int32) (cost : Int32) (sz : Nat) : Met l yX12_flight wsX12_flight ({ frames := 2, cells := 0, slots := 0, locals := 42 }) (pcW E [.ref h0, .int pp, .int qq, .int cost] sz [(h0, .inr (12, mG q i_taped i_size i_sort i_what i_at i_end i_worth i_faultKind i_faultPlace i_got i_worked i_deliveries i_isPlanned i_bestDone i_bestCost)), (q 49, .inl (E.2.1 0, 100, .inl a_flights))]) (va_Qi (fun (r : Int32) (u : Int32 × (Nat → Int32)) => match u with | (ip2, b_flights) => ((inR pp 0 9 && inR qq 0 9 && !(decide (pp = qq)) && inR cost (-1) 10000) = true ∧ r = a_flights (10 * pp + qq).toNatClampNeg ∧ b_flights = upd (upd a_flights (10 * pp + qq).toNatClampNeg cost) (10 * qq + pp).toNatClampNeg cost) ∨ ((inR pp 0 9 && inR qq 0 9 && !(decide (pp = qq)) && inR cost (-1) 10000) = false ∧ r = -2 ∧ b_flights = a_flights)) (fun (u : Int32 × (Nat → Int32)) (t : State) => match u with | (ip2, b_flights) => wB E (va_A [(h0, .inr (12, mG q i_taped i_size i_sort i_what i_at i_end i_worth i_faultKind i_faultPlace i_got i_worked i_deliveries i_isPlanned i_bestDone i_bestCost)), (q 49, .inl (E.2.1 0, 100, .inl a_flights))] sz) [(h0, .inr (12, mG q i_taped i_size i_sort i_what i_at i_end i_worth i_faultKind i_faultPlace i_got i_worked i_deliveries ip2 i_bestDone i_bestCost)), (q 49, .inl (E.2.1 0, 100, .inl b_flights))] t) (va_A [(h0, .inr (12, mG q i_taped i_size i_sort i_what i_at i_end i_worth i_faultKind i_faultPlace i_got i_worked i_deliveries i_isPlanned i_bestDone i_bestCost)), (q 49, .inl (E.2.1 0, 100, .inl a_flights))] sz)) 0 0 (va_A [(h0, .inr (12, mG q i_taped i_size i_sort i_what i_at i_end i_worth i_faultKind i_faultPlace i_got i_worked i_deliveries i_isPlanned i_bestDone i_bestCost)), (q 49, .inl (E.2.1 0, 100, .inl a_flights))] sz) := by
  refine Met.ofW (cc := cX12_flight) (maxL := 5) (ret := (some .int)) (by decide) rfl ?_
  intro p e s m args below meth c s₁ B hml hv
  obtain ⟨rfl, hsz, hP, hkn, hD0, hst⟩ := hv
  have hx := B.exec
  have hb := B.bytes
  have hr := B.returns
  have hts := atoms_spec (ws := wsX12_flight) B.pre
  have hown : s.vm.findClass RX12 = some m.cls := findClass_of_methodNamed B.named
  have hlocks := B.notSynchronized
  subst hsz
  have hD := hD0.self (sz := s.heap.size)
  have hK := hkn.1
  have hAO := hkn.2.2.1
  generalize hAe : va_A [(h0, .inr (12, mG q i_taped i_size i_sort i_what i_at i_end i_worth i_faultKind i_faultPlace i_got i_worked i_deliveries i_isPlanned i_bestDone i_bestCost)), (q 49, .inl (E.2.1 0, 100, .inl a_flights))] s.heap.size = A at hD hst ⊢
  have hA : ∀ q : Nat, s.heap.size ≤ q → A q := fun q h => by rw [← hAe]; exact Or.inr h
  have hS : va_S A s.heap s.heap [] := va_S.rf
  have hP : va_P E.1 vwCl [(h0, .inr (12, mG q i_taped i_size i_sort i_what i_at i_end i_worth i_faultKind i_faultPlace i_got i_worked i_deliveries i_isPlanned i_bestDone i_bestCost)), (q 49, .inl (E.2.1 0, 100, .inl a_flights))] s.heap := hP
  have hl := lv_entry ([.ref h0, .int pp, .int qq, .int cost]) (n := 5) (Nat.le_of_ble_eq_true rfl)
  rw [lg_entry_eq]
  generalize (lg_sl ([.ref h0, .int pp, .int qq, .int cost]) ++ List.replicate (5 - (lg_sl ([.ref h0, .int pp, .int qq, .int cost])).length) Slot.unset).toArray = ls at hl ⊢
  have hl : lv_has ls 5 [(0, .ref h0), (1, .int pp), (2, .int qq), (3, .int cost)] := hl
  have fl127 := hts (.fieldLink RX12 127 "BoatsHomeModel" "flights" "[I") (by first | exact List.mem_of_getElem? (i := 1) rfl | decide +kernel)
  have fl292 := hts (.fieldLink RX12 292 "BoatsHomeModel" "isPlanned" "Z") (by first | exact List.mem_of_getElem? (i := 2) rfl | decide +kernel)
  have inX12 : ∀ w ∈ u_ws RX12 TX12 59, w ∈ wsX12_flight := by first | exact fun w h9 => (List.mem_cons_of_mem _ (List.mem_append_right _ h9)) | decide +kernel
  refine lv_iload_n hx hb dX12_flight_0 rfl (lv_at hl 1 rfl) ?_
  have hPc := hP.sub (ws' := []) [] rfl
  have hDc := hD.sub (ws' := []) [] (by decide) rfl
  have hFc := va_free (wc := []) hD hS hA [] rfl
  refine va_calli (va_runS (As := [.int pp]) (rest := []) ⟨hx, hb, hml, hown, hts⟩ (c_X12_isPort l E pp s.heap.size ) (va_cwS 1 hts gX12_flight_X12_isPort rfl rfl rfl hdS_X12_isPort ⟨Nat.le_of_ble_eq_true rfl, Nat.le_of_ble_eq_true rfl⟩) ⟨pcW_blind, (pcW_pre hPc hkn hDc hst hS hFc)⟩ rfl rfl hl.1 rfl (lv_room (Nat.le_of_ble_eq_true rfl)) dX12_flight_1 ⟨Nat.le_of_ble_eq_true rfl, Nat.le_of_ble_eq_true rfl⟩) hS (fun q _ h => hFc q h) hFc (fun r_1 u t H1 locs ht hvm hw_2 hB hz1 hk1 hS => ?_)
  obtain ⟨hP1, hD1⟩ := hB
  rw [ht] at hP1
  try dsimp only at hw_2
  obtain ⟨hP, hD⟩ := va_join (wr := [(h0, .inr (12, mG q i_taped i_size i_sort i_what i_at i_end i_worth i_faultKind i_faultPlace i_got i_worked i_deliveries i_isPlanned i_bestDone i_bestCost)), (q 49, .inl (E.2.1 0, 100, .inl a_flights))]) (w1 := []) hP hD [] [0, 1] rfl rfl (by decide) (by decide) hk1 hFc hP1 hD1
  generalize H1 = H at hP hS ⊢
  have hP : va_P E.1 vwCl [(h0, .inr (12, mG q i_taped i_size i_sort i_what i_at i_end i_worth i_faultKind i_faultPlace i_got i_worked i_deliveries i_isPlanned i_bestDone i_bestCost)), (q 49, .inl (E.2.1 0, 100, .inl a_flights))] H := hP
  have hD : va_D A [(h0, .inr (12, mG q i_taped i_size i_sort i_what i_at i_end i_worth i_faultKind i_faultPlace i_got i_worked i_deliveries i_isPlanned i_bestDone i_bestCost)), (q 49, .inl (E.2.1 0, 100, .inl a_flights))] := hD
  refine lv_if_eq (tgt := 30) hx hb dX12_flight_4 (by decide) (fun c_3 => ?_) (fun c_3 => ?_)
  · have b_4 : inR pp 0 9 = false := bz hw_2 c_3
    refine lv_bipush (v := (-2)) hx hb dX12_flight_30 (by decide) ?_
    have hP9 := hP.sub (ws' := [(h0, .inr (12, mG q i_taped i_size i_sort i_what i_at i_end i_worth i_faultKind i_faultPlace i_got i_worked i_deliveries i_isPlanned i_bestDone i_bestCost)), (q 49, .inl (E.2.1 0, 100, .inl a_flights))]) [0, 1] rfl
    have hD9 := hD.sub (ws' := [(h0, .inr (12, mG q i_taped i_size i_sort i_what i_at i_end i_worth i_faultKind i_faultPlace i_got i_worked i_deliveries i_isPlanned i_bestDone i_bestCost)), (q 49, .inl (E.2.1 0, 100, .inl a_flights))]) [0, 1] (by decide) rfl
    exact W.iret (v := (-2)) hx hb hr (fun t ht hW => ⟨⟨(-2), (i_isPlanned, a_flights), rfl, Or.inr ⟨(by first | (rw [b_4]; done) | (rw [b_4]; rfl)), rfl, rfl⟩, by rw [ht]; exact hP9, hD9⟩, hS.F ht⟩) hS.2.2 dX12_flight_32
  · have b_5 : inR pp 0 9 = true := bn hw_2 c_3
    refine lv_iload_n hx hb dX12_flight_7 rfl (lv_at hl 2 rfl) ?_
    have hPc := hP.sub (ws' := []) [] rfl
    have hDc := hD.sub (ws' := []) [] (by decide) rfl
    have hFc := va_free (wc := []) hD hS hA [] rfl
    refine va_calli (va_runS (As := [.int qq]) (rest := []) ⟨hx, hb, hml, hown, hts⟩ (c_X12_isPort l E qq H.size ) (va_cwS 1 hts gX12_flight_X12_isPort rfl rfl rfl hdS_X12_isPort ⟨Nat.le_of_ble_eq_true rfl, Nat.le_of_ble_eq_true rfl⟩) ⟨pcW_blind, (pcW_pre hPc hkn hDc hst hS hFc)⟩ rfl rfl hl.1 rfl (lv_room (Nat.le_of_ble_eq_true rfl)) dX12_flight_8 ⟨Nat.le_of_ble_eq_true rfl, Nat.le_of_ble_eq_true rfl⟩) hS (fun q _ h => hFc q h) hFc (fun r_6 u t H1 locs ht hvm hw_7 hB hz1 hk1 hS => ?_)
    obtain ⟨hP1, hD1⟩ := hB
    rw [ht] at hP1
    try dsimp only at hw_7
    obtain ⟨hP, hD⟩ := va_join (wr := [(h0, .inr (12, mG q i_taped i_size i_sort i_what i_at i_end i_worth i_faultKind i_faultPlace i_got i_worked i_deliveries i_isPlanned i_bestDone i_bestCost)), (q 49, .inl (E.2.1 0, 100, .inl a_flights))]) (w1 := []) hP hD [] [0, 1] rfl rfl (by decide) (by decide) hk1 hFc hP1 hD1
    generalize H1 = H at hP hS ⊢
    have hP : va_P E.1 vwCl [(h0, .inr (12, mG q i_taped i_size i_sort i_what i_at i_end i_worth i_faultKind i_faultPlace i_got i_worked i_deliveries i_isPlanned i_bestDone i_bestCost)), (q 49, .inl (E.2.1 0, 100, .inl a_flights))] H := hP
    have hD : va_D A [(h0, .inr (12, mG q i_taped i_size i_sort i_what i_at i_end i_worth i_faultKind i_faultPlace i_got i_worked i_deliveries i_isPlanned i_bestDone i_bestCost)), (q 49, .inl (E.2.1 0, 100, .inl a_flights))] := hD
    refine lv_if_eq (tgt := 30) hx hb dX12_flight_11 (by decide) (fun c_8 => ?_) (fun c_8 => ?_)
    · have b_9 : inR qq 0 9 = false := bz hw_7 c_8
      refine lv_bipush (v := (-2)) hx hb dX12_flight_30 (by decide) ?_
      have hP9 := hP.sub (ws' := [(h0, .inr (12, mG q i_taped i_size i_sort i_what i_at i_end i_worth i_faultKind i_faultPlace i_got i_worked i_deliveries i_isPlanned i_bestDone i_bestCost)), (q 49, .inl (E.2.1 0, 100, .inl a_flights))]) [0, 1] rfl
      have hD9 := hD.sub (ws' := [(h0, .inr (12, mG q i_taped i_size i_sort i_what i_at i_end i_worth i_faultKind i_faultPlace i_got i_worked i_deliveries i_isPlanned i_bestDone i_bestCost)), (q 49, .inl (E.2.1 0, 100, .inl a_flights))]) [0, 1] (by decide) rfl
      exact W.iret (v := (-2)) hx hb hr (fun t ht hW => ⟨⟨(-2), (i_isPlanned, a_flights), rfl, Or.inr ⟨(by first | (rw [b_5, b_9]; done) | (rw [b_5, b_9]; rfl)), rfl, rfl⟩, by rw [ht]; exact hP9, hD9⟩, hS.F ht⟩) hS.2.2 dX12_flight_32
    · have b_10 : inR qq 0 9 = true := bn hw_7 c_8
      refine lv_iload_n hx hb dX12_flight_14 rfl (lv_at hl 1 rfl) ?_
      refine lv_iload_n hx hb dX12_flight_15 rfl (lv_at hl 2 rfl) ?_
      refine lv_icmp_eq (tgt := 30) hx hb dX12_flight_16 (by decide) (fun c_11 => ?_) (fun c_11 => ?_)
      · refine lv_bipush (v := (-2)) hx hb dX12_flight_30 (by decide) ?_
        have hP9 := hP.sub (ws' := [(h0, .inr (12, mG q i_taped i_size i_sort i_what i_at i_end i_worth i_faultKind i_faultPlace i_got i_worked i_deliveries i_isPlanned i_bestDone i_bestCost)), (q 49, .inl (E.2.1 0, 100, .inl a_flights))]) [0, 1] rfl
        have hD9 := hD.sub (ws' := [(h0, .inr (12, mG q i_taped i_size i_sort i_what i_at i_end i_worth i_faultKind i_faultPlace i_got i_worked i_deliveries i_isPlanned i_bestDone i_bestCost)), (q 49, .inl (E.2.1 0, 100, .inl a_flights))]) [0, 1] (by decide) rfl
        exact W.iret (v := (-2)) hx hb hr (fun t ht hW => ⟨⟨(-2), (i_isPlanned, a_flights), rfl, Or.inr ⟨(by first | (rw [b_5, b_10, decide_eq_true c_11]; done) | (rw [b_5, b_10, decide_eq_true c_11]; rfl)), rfl, rfl⟩, by rw [ht]; exact hP9, hD9⟩, hS.F ht⟩) hS.2.2 dX12_flight_32
      · refine lv_iload_n hx hb dX12_flight_19 rfl (lv_at hl 3 rfl) ?_
        refine lv_iconst (v := (-1)) hx hb dX12_flight_20 (by decide) ?_
        refine lv_sipush (v := 10000) hx hb dX12_flight_21 (by decide) ?_
        have hPc := hP.sub (ws' := []) [] rfl
        have hDc := hD.sub (ws' := []) [] (by decide) rfl
        have hFc := va_free (wc := []) hD hS hA [] rfl
        refine va_calli (va_runS (As := [.int cost, .int (-1), .int 10000]) (rest := []) ⟨hx, hb, hml, hown, hts⟩ (c_X12_in l E cost (-1) 10000 H.size ) (va_cwS 3 hts gX12_flight_X12_in rfl rfl rfl hdS_X12_in ⟨Nat.le_of_ble_eq_true rfl, Nat.le_of_ble_eq_true rfl⟩) ⟨pcW_blind, (pcW_pre hPc hkn hDc hst hS hFc)⟩ rfl rfl hl.1 rfl (lv_room (Nat.le_of_ble_eq_true rfl)) dX12_flight_24 ⟨Nat.le_of_ble_eq_true rfl, Nat.le_of_ble_eq_true rfl⟩) hS (fun q _ h => hFc q h) hFc (fun r_12 u t H1 locs ht hvm hw_13 hB hz1 hk1 hS => ?_)
        obtain ⟨hP1, hD1⟩ := hB
        rw [ht] at hP1
        try dsimp only at hw_13
        obtain ⟨hP, hD⟩ := va_join (wr := [(h0, .inr (12, mG q i_taped i_size i_sort i_what i_at i_end i_worth i_faultKind i_faultPlace i_got i_worked i_deliveries i_isPlanned i_bestDone i_bestCost)), (q 49, .inl (E.2.1 0, 100, .inl a_flights))]) (w1 := []) hP hD [] [0, 1] rfl rfl (by decide) (by decide) hk1 hFc hP1 hD1
        generalize H1 = H at hP hS ⊢
        have hP : va_P E.1 vwCl [(h0, .inr (12, mG q i_taped i_size i_sort i_what i_at i_end i_worth i_faultKind i_faultPlace i_got i_worked i_deliveries i_isPlanned i_bestDone i_bestCost)), (q 49, .inl (E.2.1 0, 100, .inl a_flights))] H := hP
        have hD : va_D A [(h0, .inr (12, mG q i_taped i_size i_sort i_what i_at i_end i_worth i_faultKind i_faultPlace i_got i_worked i_deliveries i_isPlanned i_bestDone i_bestCost)), (q 49, .inl (E.2.1 0, 100, .inl a_flights))] := hD
        refine lv_if_ne (tgt := 33) hx hb dX12_flight_27 (by decide) (fun c_14 => ?_) (fun c_14 => ?_)
        · have b_15 : inR cost (-1) 10000 = true := bn hw_13 c_14
          refine lv_aload_n hx hb dX12_flight_33 rfl (lv_at hl 0 rfl) ?_
          refine va_get (D := E.1) (ci := 12) (v := .ref (q 49)) (C := RX12) (T := TX12) (N := 59) hx hb hts inX12 hown hK hP 0 rfl rfl 49 (by decide) fl127 (fun _ h9 => h9) rfl dX12_flight_34 ?_
          refine lv_bipush (v := 10) hx hb dX12_flight_37 (by decide) ?_
          refine lv_iload_n hx hb dX12_flight_39 rfl (lv_at hl 1 rfl) ?_
          refine lv_imul hx hb dX12_flight_40 ?_
          refine lv_topi (fun x_16 ex_16 => ?_)
          refine lv_iload_n hx hb dX12_flight_41 rfl (lv_at hl 2 rfl) ?_
          refine lv_iadd hx hb dX12_flight_42 ?_
          refine lv_topi (fun x_17 ex_17 => ?_)
          have hi_18 : vp_in x_17 100 := by rw [ex_17, ex_16]; exact ixB b_5 (a := 9) (by decide) b_10 (b := 9) (by decide) (M := 10) rfl (by decide) (by decide)
          refine va_iald hx hb hK hP 1 0 rfl rfl hi_18 dX12_flight_43 ?_
          refine lv_topi (fun x_19 ex_19 => ?_)
          refine lv_istore (lv' := [(4, .int x_19), (0, .ref h0), (1, .int pp), (2, .int qq), (3, .int cost)]) hx hb dX12_flight_44 hl (by decide) rfl (fun ls hl => ?_)
          refine lv_aload_n hx hb dX12_flight_46 rfl (lv_at hl 1 rfl) ?_
          refine va_get (D := E.1) (ci := 12) (v := .ref (q 49)) (C := RX12) (T := TX12) (N := 59) hx hb hts inX12 hown hK hP 0 rfl rfl 49 (by decide) fl127 (fun _ h9 => h9) rfl dX12_flight_47 ?_
          refine lv_bipush (v := 10) hx hb dX12_flight_50 (by decide) ?_
          refine lv_iload_n hx hb dX12_flight_52 rfl (lv_at hl 2 rfl) ?_
          refine lv_imul hx hb dX12_flight_53 ?_
          refine lv_topi (fun x_20 ex_20 => ?_)
          refine lv_iload_n hx hb dX12_flight_54 rfl (lv_at hl 3 rfl) ?_
          refine lv_iadd hx hb dX12_flight_55 ?_
          refine lv_topi (fun x_21 ex_21 => ?_)
          refine lv_iload_n hx hb dX12_flight_56 rfl (lv_at hl 4 rfl) ?_
          have hi_22 : vp_in x_21 100 := by rw [ex_21, ex_20]; exact ixB b_5 (a := 9) (by decide) b_10 (b := 9) (by decide) (M := 10) rfl (by decide) (by decide)
          refine va_iast hx hb hK hP hD hS 1 0 rfl rfl hi_22 dX12_flight_57 (fun H locs hP hD hS => ?_)
          have hP : va_P E.1 vwCl [(h0, .inr (12, mG q i_taped i_size i_sort i_what i_at i_end i_worth i_faultKind i_faultPlace i_got i_worked i_deliveries i_isPlanned i_bestDone i_bestCost)), (q 49, .inl (E.2.1 0, 100, .inl (upd a_flights x_21.toNatClampNeg cost)))] H := hP
          have hD : va_D A [(h0, .inr (12, mG q i_taped i_size i_sort i_what i_at i_end i_worth i_faultKind i_faultPlace i_got i_worked i_deliveries i_isPlanned i_bestDone i_bestCost)), (q 49, .inl (E.2.1 0, 100, .inl (upd a_flights x_21.toNatClampNeg cost)))] := hD
          obtain ⟨f_23, ef_23⟩ : ∃ g : Nat → Int32, g = upd a_flights x_21.toNatClampNeg cost := ⟨_, rfl⟩
          rw [← ef_23] at hP hD
          refine lv_aload_n hx hb dX12_flight_58 rfl (lv_at hl 1 rfl) ?_
          refine va_get (D := E.1) (ci := 12) (v := .ref (q 49)) (C := RX12) (T := TX12) (N := 59) hx hb hts inX12 hown hK hP 0 rfl rfl 49 (by decide) fl127 (fun _ h9 => h9) rfl dX12_flight_59 ?_
          refine lv_bipush (v := 10) hx hb dX12_flight_62 (by decide) ?_
          refine lv_iload_n hx hb dX12_flight_64 rfl (lv_at hl 3 rfl) ?_
          refine lv_imul hx hb dX12_flight_65 ?_
          refine lv_topi (fun x_24 ex_24 => ?_)
          refine lv_iload_n hx hb dX12_flight_66 rfl (lv_at hl 2 rfl) ?_
          refine lv_iadd hx hb dX12_flight_67 ?_
          refine lv_topi (fun x_25 ex_25 => ?_)
          refine lv_iload_n hx hb dX12_flight_68 rfl (lv_at hl 4 rfl) ?_
          have hi_26 : vp_in x_25 100 := by rw [ex_25, ex_24]; exact ixB b_10 (a := 9) (by decide) b_5 (b := 9) (by decide) (M := 10) rfl (by decide) (by decide)
          refine va_iast hx hb hK hP hD hS 1 0 rfl rfl hi_26 dX12_flight_69 (fun H locs hP hD hS => ?_)
          have hP : va_P E.1 vwCl [(h0, .inr (12, mG q i_taped i_size i_sort i_what i_at i_end i_worth i_faultKind i_faultPlace i_got i_worked i_deliveries i_isPlanned i_bestDone i_bestCost)), (q 49, .inl (E.2.1 0, 100, .inl (upd f_23 x_25.toNatClampNeg cost)))] H := hP
          have hD : va_D A [(h0, .inr (12, mG q i_taped i_size i_sort i_what i_at i_end i_worth i_faultKind i_faultPlace i_got i_worked i_deliveries i_isPlanned i_bestDone i_bestCost)), (q 49, .inl (E.2.1 0, 100, .inl (upd f_23 x_25.toNatClampNeg cost)))] := hD
          obtain ⟨f_27, ef_27⟩ : ∃ g : Nat → Int32, g = upd f_23 x_25.toNatClampNeg cost := ⟨_, rfl⟩
          rw [← ef_27] at hP hD
          refine lv_aload_n hx hb dX12_flight_70 rfl (lv_at hl 1 rfl) ?_
          refine lv_iconst (v := 0) hx hb dX12_flight_71 (by decide) ?_
          refine va_put (D := E.1) (ci := 12) (v := .int 0) (ty := .boolean) (C := RX12) (T := TX12) (N := 59) hx hb hts inX12 tyX12 tyX12_ok nmX12 hown hK hP hD hS 0 rfl rfl 50 (by decide) fl292 (fun _ h9 => h9) rfl (by decide +kernel) (by first | rfl | decide) (by first | rfl | decide) (Nat.le_of_ble_eq_true rfl) dX12_flight_72 (fun H locs hP hD hS => ?_)
          have hP : va_P E.1 vwCl [(h0, .inr (12, mG q i_taped i_size i_sort i_what i_at i_end i_worth i_faultKind i_faultPlace i_got i_worked i_deliveries 0 i_bestDone i_bestCost)), (q 49, .inl (E.2.1 0, 100, .inl f_27))] H := hP
          have hD : va_D A [(h0, .inr (12, mG q i_taped i_size i_sort i_what i_at i_end i_worth i_faultKind i_faultPlace i_got i_worked i_deliveries 0 i_bestDone i_bestCost)), (q 49, .inl (E.2.1 0, 100, .inl f_27))] := hD
          refine lv_iload hx hb dX12_flight_75 (lv_at hl 0 rfl) ?_
          have hP9 := hP.sub (ws' := [(h0, .inr (12, mG q i_taped i_size i_sort i_what i_at i_end i_worth i_faultKind i_faultPlace i_got i_worked i_deliveries 0 i_bestDone i_bestCost)), (q 49, .inl (E.2.1 0, 100, .inl f_27))]) [0, 1] rfl
          have hD9 := hD.sub (ws' := [(h0, .inr (12, mG q i_taped i_size i_sort i_what i_at i_end i_worth i_faultKind i_faultPlace i_got i_worked i_deliveries 0 i_bestDone i_bestCost)), (q 49, .inl (E.2.1 0, 100, .inl f_27))]) [0, 1] (by decide) rfl
          exact W.iret (v := x_19) hx hb hr (fun t ht hW => ⟨⟨x_19, (0, f_27), rfl, Or.inl ⟨(by first | (rw [b_5, b_10, b_15, decide_eq_false c_11]; done) | (rw [b_5, b_10, b_15, decide_eq_false c_11]; rfl)), by rw [ex_19, ex_17, ex_16], by rw [ef_27, ef_23, ex_21, ex_20, ex_25, ex_24]⟩, by rw [ht]; exact hP9, hD9⟩, hS.F ht⟩) hS.2.2 dX12_flight_77
        · have b_28 : inR cost (-1) 10000 = false := bz hw_13 c_14
          refine lv_bipush (v := (-2)) hx hb dX12_flight_30 (by decide) ?_
          have hP9 := hP.sub (ws' := [(h0, .inr (12, mG q i_taped i_size i_sort i_what i_at i_end i_worth i_faultKind i_faultPlace i_got i_worked i_deliveries i_isPlanned i_bestDone i_bestCost)), (q 49, .inl (E.2.1 0, 100, .inl a_flights))]) [0, 1] rfl
          have hD9 := hD.sub (ws' := [(h0, .inr (12, mG q i_taped i_size i_sort i_what i_at i_end i_worth i_faultKind i_faultPlace i_got i_worked i_deliveries i_isPlanned i_bestDone i_bestCost)), (q 49, .inl (E.2.1 0, 100, .inl a_flights))]) [0, 1] (by decide) rfl
          exact W.iret (v := (-2)) hx hb hr (fun t ht hW => ⟨⟨(-2), (i_isPlanned, a_flights), rfl, Or.inr ⟨(by first | (rw [b_5, b_10, b_28, decide_eq_false c_11]; done) | (rw [b_5, b_10, b_28, decide_eq_false c_11]; rfl)), rfl, rfl⟩, by rw [ht]; exact hP9, hD9⟩, hS.F ht⟩) hS.2.2 dX12_flight_32
