set_option maxHeartbeats 4000000 in
set_option maxRecDepth 100000 in
theorem c_X11_isPlace (l : Launch) (E : vE) (x : Int32) (sz : Nat) : Met l yX11_isPlace wsX11_isPlace ({ frames := 1, cells := 0, slots := 0, locals := 20 }) (pcW E [.int x] sz []) (va_Qi (fun (r : Int32) (_ : Unit) => r = bI (isPl x)) (fun (_ : Unit) (t : State) => wB E (va_A [] sz) [] t) (va_A [] sz)) 0 0 (va_A [] sz) := by
  refine Met.ofW (cc := cX11_isPlace) (maxL := 1) (ret := (some .boolean)) (by decide) rfl ?_
  intro p e s m args below meth c s₁ B hml hv
  obtain ⟨rfl, hsz, hP, hkn, hD0, hst⟩ := hv
  have hx := B.exec
  have hb := B.bytes
  have hr := B.returns
  have hts := atoms_spec (ws := wsX11_isPlace) B.pre
  have hown : s.vm.findClass RX11 = some m.cls := findClass_of_methodNamed B.named
  have hlocks := B.notSynchronized
  subst hsz
  have hD := hD0.self (sz := s.heap.size)
  have hK := hkn.1
  have hAO := hkn.2.2
  generalize hAe : va_A [] s.heap.size = A at hD hst ⊢
  have hA : ∀ q : Nat, s.heap.size ≤ q → A q := fun q h => by rw [← hAe]; exact Or.inr h
  have hS : va_S A s.heap s.heap [] := va_S.rf
  have hP : va_P E.1 vwCl [] s.heap := hP
  have hl := lv_entry ([.int x]) (n := 1) (Nat.le_of_ble_eq_true rfl)
  rw [lg_entry_eq]
  generalize (lg_sl ([.int x]) ++ List.replicate (1 - (lg_sl ([.int x])).length) Slot.unset).toArray = ls at hl ⊢
  have hl : lv_has ls 1 [(0, .int x)] := hl
  refine lv_iload_n hx hb dX11_isPlace_0 rfl (lv_at hl 0 rfl) ?_
  refine lv_if_lt (tgt := 26) hx hb dX11_isPlace_1 (by decide) (fun c1 => ?_) (fun c1 => ?_)
  · refine lv_iconst (v := 0) hx hb dX11_isPlace_26 (by decide) ?_
    have hP9 := hP.sub (ws' := []) [] rfl
    have hD9 := hD.sub (ws' := []) [] (by decide) rfl
    exact W.zret (v := 0) hx hb hr (by decide) (fun t ht hW => ⟨⟨0, (), rfl, (isPl_neg c1), by rw [ht]; exact hP9, hD9⟩, hS.F ht⟩) hS.2.2 dX11_isPlace_27
  · refine lv_iload_n hx hb dX11_isPlace_4 rfl (lv_at hl 0 rfl) ?_
    have hPc := hP.sub (ws' := []) [] rfl
    have hDc := hD.sub (ws' := []) [] (by decide) rfl
    have hFc := va_free (wc := []) hD hS hA [] rfl
    refine va_calli (va_runS (As := [.int x]) (rest := []) ⟨hx, hb, hml, hown, hts⟩ (c_X11_columnOf l E x s.heap.size ) (va_cwS 1 hts gX11_isPlace_X11_columnOf rfl rfl rfl (by decide +kernel) ⟨Nat.le_of_ble_eq_true rfl, Nat.le_of_ble_eq_true rfl⟩) ⟨pcW_blind, (pcW_pre hPc hkn hDc hst hS hFc)⟩ rfl rfl hl.1 rfl (lv_room (Nat.le_of_ble_eq_true rfl)) dX11_isPlace_5 ⟨Nat.le_of_ble_eq_true rfl, Nat.le_of_ble_eq_true rfl⟩) hS (fun q _ h => hFc q h) hFc (fun r2 u t H1 locs ht hvm hw3 hB hz1 hk1 hS => ?_)
    obtain ⟨hP1, hD1⟩ := hB
    rw [ht] at hP1
    try dsimp only at hw3
    obtain ⟨hP, hD⟩ := va_join (wr := []) (w1 := []) hP hD [] [] rfl rfl (by decide) (by decide) hk1 hFc hP1 hD1
    generalize H1 = H at hP hS ⊢
    have hP : va_P E.1 vwCl [] H := hP
    have hD : va_D A [] := hD
    refine lv_bipush (v := 30) hx hb dX11_isPlace_8 (by decide) ?_
    refine lv_icmp_ge (tgt := 26) hx hb dX11_isPlace_10 (by decide) (fun c4 => ?_) (fun c4 => ?_)
    · refine lv_iconst (v := 0) hx hb dX11_isPlace_26 (by decide) ?_
      have hP9 := hP.sub (ws' := []) [] rfl
      have hD9 := hD.sub (ws' := []) [] (by decide) rfl
      exact W.zret (v := 0) hx hb hr (by decide) (fun t ht hW => ⟨⟨0, (), rfl, (isPl_col hw3 c4), by rw [ht]; exact hP9, hD9⟩, hS.F ht⟩) hS.2.2 dX11_isPlace_27
    · refine lv_iload_n hx hb dX11_isPlace_13 rfl (lv_at hl 0 rfl) ?_
      have hPc := hP.sub (ws' := []) [] rfl
      have hDc := hD.sub (ws' := []) [] (by decide) rfl
      have hFc := va_free (wc := []) hD hS hA [] rfl
      refine va_calli (va_runS (As := [.int x]) (rest := []) ⟨hx, hb, hml, hown, hts⟩ (c_X11_rowOf l E x H.size ) (va_cwS 1 hts gX11_isPlace_X11_rowOf rfl rfl rfl (by decide +kernel) ⟨Nat.le_of_ble_eq_true rfl, Nat.le_of_ble_eq_true rfl⟩) ⟨pcW_blind, (pcW_pre hPc hkn hDc hst hS hFc)⟩ rfl rfl hl.1 rfl (lv_room (Nat.le_of_ble_eq_true rfl)) dX11_isPlace_14 ⟨Nat.le_of_ble_eq_true rfl, Nat.le_of_ble_eq_true rfl⟩) hS (fun q _ h => hFc q h) hFc (fun r5 u t H1 locs ht hvm hw6 hB hz1 hk1 hS => ?_)
      obtain ⟨hP1, hD1⟩ := hB
      rw [ht] at hP1
      try dsimp only at hw6
      obtain ⟨hP, hD⟩ := va_join (wr := []) (w1 := []) hP hD [] [] rfl rfl (by decide) (by decide) hk1 hFc hP1 hD1
      generalize H1 = H at hP hS ⊢
      have hP : va_P E.1 vwCl [] H := hP
      have hD : va_D A [] := hD
      refine lv_bipush (v := 20) hx hb dX11_isPlace_17 (by decide) ?_
      refine lv_icmp_ge (tgt := 26) hx hb dX11_isPlace_19 (by decide) (fun c7 => ?_) (fun c7 => ?_)
      · refine lv_iconst (v := 0) hx hb dX11_isPlace_26 (by decide) ?_
        have hP9 := hP.sub (ws' := []) [] rfl
        have hD9 := hD.sub (ws' := []) [] (by decide) rfl
        exact W.zret (v := 0) hx hb hr (by decide) (fun t ht hW => ⟨⟨0, (), rfl, (isPl_row hw6 c7), by rw [ht]; exact hP9, hD9⟩, hS.F ht⟩) hS.2.2 dX11_isPlace_27
      · refine lv_iconst (v := 1) hx hb dX11_isPlace_22 (by decide) ?_
        refine lv_goto (tgt := 27) hx hb dX11_isPlace_23 (by decide) ?_
        have hP9 := hP.sub (ws' := []) [] rfl
        have hD9 := hD.sub (ws' := []) [] (by decide) rfl
        exact W.zret (v := 1) hx hb hr (by decide) (fun t ht hW => ⟨⟨1, (), rfl, (isPl_ok c1 hw3 c4 hw6 c7), by rw [ht]; exact hP9, hD9⟩, hS.F ht⟩) hS.2.2 dX11_isPlace_27
set_option maxHeartbeats 4000000 in
set_option maxRecDepth 100000 in
theorem c_X11_end (l : Launch) (E : vE) (h0 : Nat) (tp : Nat) (rd : Nat) (se : Nat) (ba : Nat) (of : Nat) (pl : Nat) (sr : Nat) (sc : Nat) (by_ : Nat) (n : Int32) (sz : Nat) : Met l yX11_end wsX11_end ({ frames := 2, cells := 0, slots := 0, locals := 40 }) (pcW E [.ref h0, .int n] sz [(h0, .inr (11, [.ref tp, .ref rd, .ref se, .ref ba, .ref of, .ref pl, .ref sr, .ref sc, .int 0])), (tp, .inr (9, [.ref by_, .int 0]))]) (va_Qi (fun (r : Int32) (_ : Unit) => r = cond (inR n 0 0) n (-1)) (fun (_ : Unit) (t : State) => wB E (va_A [(h0, .inr (11, [.ref tp, .ref rd, .ref se, .ref ba, .ref of, .ref pl, .ref sr, .ref sc, .int 0])), (tp, .inr (9, [.ref by_, .int 0]))] sz) [] t) (va_A [(h0, .inr (11, [.ref tp, .ref rd, .ref se, .ref ba, .ref of, .ref pl, .ref sr, .ref sc, .int 0])), (tp, .inr (9, [.ref by_, .int 0]))] sz)) 0 0 (va_A [(h0, .inr (11, [.ref tp, .ref rd, .ref se, .ref ba, .ref of, .ref pl, .ref sr, .ref sc, .int 0])), (tp, .inr (9, [.ref by_, .int 0]))] sz) := by
  refine Met.ofW (cc := cX11_end) (maxL := 2) (ret := (some .int)) (by decide) rfl ?_
  intro p e s m args below meth c s₁ B hml hv
  obtain ⟨rfl, hsz, hP, hkn, hD0, hst⟩ := hv
  have hx := B.exec
  have hb := B.bytes
  have hr := B.returns
  have hts := atoms_spec (ws := wsX11_end) B.pre
  have hown : s.vm.findClass RX11 = some m.cls := findClass_of_methodNamed B.named
  have hlocks := B.notSynchronized
  subst hsz
  have hD := hD0.self (sz := s.heap.size)
  have hK := hkn.1
  have hAO := hkn.2.2
  generalize hAe : va_A [(h0, .inr (11, [.ref tp, .ref rd, .ref se, .ref ba, .ref of, .ref pl, .ref sr, .ref sc, .int 0])), (tp, .inr (9, [.ref by_, .int 0]))] s.heap.size = A at hD hst ⊢
  have hA : ∀ q : Nat, s.heap.size ≤ q → A q := fun q h => by rw [← hAe]; exact Or.inr h
  have hS : va_S A s.heap s.heap [] := va_S.rf
  have hP : va_P E.1 vwCl [(h0, .inr (11, [.ref tp, .ref rd, .ref se, .ref ba, .ref of, .ref pl, .ref sr, .ref sc, .int 0])), (tp, .inr (9, [.ref by_, .int 0]))] s.heap := hP
  have hl := lv_entry ([.ref h0, .int n]) (n := 2) (Nat.le_of_ble_eq_true rfl)
  rw [lg_entry_eq]
  generalize (lg_sl ([.ref h0, .int n]) ++ List.replicate (2 - (lg_sl ([.ref h0, .int n])).length) Slot.unset).toArray = ls at hl ⊢
  have hl : lv_has ls 2 [(0, .ref h0), (1, .int n)] := hl
  have fl10 := hts (.fieldLink RX11 10 "BoatsHome" "tape" "LBoatsHome$Tape;") (by decide +kernel)
  have fl73 := hts (.fieldLink RX11 73 "BoatsHome$Tape" "length" "I") (by decide +kernel)
  have inX11 : ∀ w ∈ u_ws RX11 TX11 9, w ∈ wsX11_end := by decide +kernel
  have inX9 : ∀ w ∈ u_ws RX9 TX9 2, w ∈ wsX11_end := by decide +kernel
  refine lv_iload_n hx hb dX11_end_0 rfl (lv_at hl 1 rfl) ?_
  refine lv_iconst (v := 0) hx hb dX11_end_1 (by decide) ?_
  refine lv_aload_n hx hb dX11_end_2 rfl (lv_at hl 0 rfl) ?_
  refine va_get (D := E.1) (ci := 11) (v := .ref tp) (C := RX11) (T := TX11) (N := 9) hx hb hts inX11 hown hK hP 0 rfl rfl 0 (by decide) fl10 (fun _ h9 => h9) rfl dX11_end_3 ?_
  refine va_get (D := E.1) (ci := 9) (v := .int 0) (C := RX9) (T := TX9) (N := 2) hx hb hts inX9 hown hK hP 1 rfl rfl 1 (by decide) fl73 (fun _ h9 => h9) rfl dX11_end_6 ?_
  have hPc := hP.sub (ws' := []) [] rfl
  have hDc := hD.sub (ws' := []) [] (by decide) rfl
  have hFc := va_free (wc := []) hD hS hA [] rfl
  refine va_calli (va_runS (As := [.int n, .int 0, .int 0]) (rest := []) ⟨hx, hb, hml, hown, hts⟩ (c_X11_within l E n 0 0 s.heap.size ) (va_cwS 3 hts gX11_end_X11_within rfl rfl rfl (by decide +kernel) ⟨Nat.le_of_ble_eq_true rfl, Nat.le_of_ble_eq_true rfl⟩) ⟨pcW_blind, (pcW_pre hPc hkn hDc hst hS hFc)⟩ rfl rfl hl.1 rfl (lv_room (Nat.le_of_ble_eq_true rfl)) dX11_end_9 ⟨Nat.le_of_ble_eq_true rfl, Nat.le_of_ble_eq_true rfl⟩) hS (fun q _ h => hFc q h) hFc (fun r1 u t H1 locs ht hvm hw2 hB hz1 hk1 hS => ?_)
  obtain ⟨hP1, hD1⟩ := hB
  rw [ht] at hP1
  try dsimp only at hw2
  obtain ⟨hP, hD⟩ := va_join (wr := [(h0, .inr (11, [.ref tp, .ref rd, .ref se, .ref ba, .ref of, .ref pl, .ref sr, .ref sc, .int 0])), (tp, .inr (9, [.ref by_, .int 0]))]) (w1 := []) hP hD [] [0, 1] rfl rfl (by decide) (by decide) hk1 hFc hP1 hD1
  generalize H1 = H at hP hS ⊢
  have hP : va_P E.1 vwCl [(h0, .inr (11, [.ref tp, .ref rd, .ref se, .ref ba, .ref of, .ref pl, .ref sr, .ref sc, .int 0])), (tp, .inr (9, [.ref by_, .int 0]))] H := hP
  have hD : va_D A [(h0, .inr (11, [.ref tp, .ref rd, .ref se, .ref ba, .ref of, .ref pl, .ref sr, .ref sc, .int 0])), (tp, .inr (9, [.ref by_, .int 0]))] := hD
  refine lv_if_ne (tgt := 17) hx hb dX11_end_12 (by decide) (fun c3 => ?_) (fun c3 => ?_)
  · have b4 : inR n 0 0 = true := bn hw2 c3
    refine lv_aload_n hx hb dX11_end_17 rfl (lv_at hl 0 rfl) ?_
    refine va_get (D := E.1) (ci := 11) (v := .ref tp) (C := RX11) (T := TX11) (N := 9) hx hb hts inX11 hown hK hP 0 rfl rfl 0 (by decide) fl10 (fun _ h9 => h9) rfl dX11_end_18 ?_
    refine lv_iload_n hx hb dX11_end_21 rfl (lv_at hl 1 rfl) ?_
    refine va_put (D := E.1) (ci := 9) (v := .int n) (ty := .int) (C := RX9) (T := TX9) (N := 2) hx hb hts inX9 tyX9 tyX9_ok nmX9 hown hK hP hD hS 1 rfl rfl 1 (by decide) fl73 (fun _ h9 => h9) rfl (by decide +kernel) rfl rfl (Nat.le_of_ble_eq_true rfl) dX11_end_22 (fun H locs hP hD hS => ?_)
    have hP : va_P E.1 vwCl [(h0, .inr (11, [.ref tp, .ref rd, .ref se, .ref ba, .ref of, .ref pl, .ref sr, .ref sc, .int 0])), (tp, .inr (9, [.ref by_, .int n]))] H := hP
    have hD : va_D A [(h0, .inr (11, [.ref tp, .ref rd, .ref se, .ref ba, .ref of, .ref pl, .ref sr, .ref sc, .int 0])), (tp, .inr (9, [.ref by_, .int n]))] := hD
    refine lv_iload_n hx hb dX11_end_25 rfl (lv_at hl 1 rfl) ?_
    have hP9 := hP.sub (ws' := []) [] rfl
    have hD9 := hD.sub (ws' := []) [] (by decide) rfl
    exact W.iret (v := n) hx hb hr (fun t ht hW => ⟨⟨n, (), rfl, (by first | (rw [b4]; done) | (rw [b4]; rfl)), by rw [ht]; exact hP9, hD9⟩, hS.F ht⟩) hS.2.2 dX11_end_26
  · have b5 : inR n 0 0 = false := bz hw2 c3
    refine lv_iconst (v := (-1)) hx hb dX11_end_15 (by decide) ?_
    have hP9 := hP.sub (ws' := []) [] rfl
    have hD9 := hD.sub (ws' := []) [] (by decide) rfl
    exact W.iret (v := (-1)) hx hb hr (fun t ht hW => ⟨⟨(-1), (), rfl, (by first | (rw [b5]; done) | (rw [b5]; rfl)), by rw [ht]; exact hP9, hD9⟩, hS.F ht⟩) hS.2.2 dX11_end_16
set_option maxHeartbeats 4000000 in
set_option maxRecDepth 100000 in
theorem c_X11_wind (l : Launch) (E : vE) (h0 : Nat) (tp : Nat) (rd : Nat) (se : Nat) (ba : Nat) (of : Nat) (pl : Nat) (sr : Nat) (sc : Nat) (wi : Nat) (po : Nat) (zone : Int32) (month : Int32) (dir : Int32) (force : Int32) (sz : Nat) : Met l yX11_wind wsX11_wind ({ frames := 2, cells := 0, slots := 0, locals := 40 }) (pcW E [.ref h0, .int zone, .int month, .int dir, .int force] sz [(h0, .inr (11, [.ref tp, .ref rd, .ref se, .ref ba, .ref of, .ref pl, .ref sr, .ref sc, .int 0])), (se, .inr (8, [.ref wi, .ref po])), (wi, .inl (E.2 0, 288, .inl (fun _ => 0)))]) (va_Qi (fun (r : Int32) (_ : Unit) => r = cond (inR zone 0 23 && inR month 0 11 && inR dir 0 7 && inR force 0 9) 0 (-2)) (fun (_ : Unit) (t : State) => wB E (va_A [(h0, .inr (11, [.ref tp, .ref rd, .ref se, .ref ba, .ref of, .ref pl, .ref sr, .ref sc, .int 0])), (se, .inr (8, [.ref wi, .ref po])), (wi, .inl (E.2 0, 288, .inl (fun _ => 0)))] sz) [] t) (va_A [(h0, .inr (11, [.ref tp, .ref rd, .ref se, .ref ba, .ref of, .ref pl, .ref sr, .ref sc, .int 0])), (se, .inr (8, [.ref wi, .ref po])), (wi, .inl (E.2 0, 288, .inl (fun _ => 0)))] sz)) 0 0 (va_A [(h0, .inr (11, [.ref tp, .ref rd, .ref se, .ref ba, .ref of, .ref pl, .ref sr, .ref sc, .int 0])), (se, .inr (8, [.ref wi, .ref po])), (wi, .inl (E.2 0, 288, .inl (fun _ => 0)))] sz) := by
  refine Met.ofW (cc := cX11_wind) (maxL := 7) (ret := (some .int)) (by decide) rfl ?_
  intro p e s m args below meth c s₁ B hml hv
  obtain ⟨rfl, hsz, hP, hkn, hD0, hst⟩ := hv
  have hx := B.exec
  have hb := B.bytes
  have hr := B.returns
  have hts := atoms_spec (ws := wsX11_wind) B.pre
  have hown : s.vm.findClass RX11 = some m.cls := findClass_of_methodNamed B.named
  have hlocks := B.notSynchronized
  subst hsz
  have hD := hD0.self (sz := s.heap.size)
  have hK := hkn.1
  have hAO := hkn.2.2
  generalize hAe : va_A [(h0, .inr (11, [.ref tp, .ref rd, .ref se, .ref ba, .ref of, .ref pl, .ref sr, .ref sc, .int 0])), (se, .inr (8, [.ref wi, .ref po])), (wi, .inl (E.2 0, 288, .inl (fun _ => 0)))] s.heap.size = A at hD hst ⊢
  have hA : ∀ q : Nat, s.heap.size ≤ q → A q := fun q h => by rw [← hAe]; exact Or.inr h
  have hS : va_S A s.heap s.heap [] := va_S.rf
  have hP : va_P E.1 vwCl [(h0, .inr (11, [.ref tp, .ref rd, .ref se, .ref ba, .ref of, .ref pl, .ref sr, .ref sc, .int 0])), (se, .inr (8, [.ref wi, .ref po])), (wi, .inl (E.2 0, 288, .inl (fun _ => 0)))] s.heap := hP
  have hl := lv_entry ([.ref h0, .int zone, .int month, .int dir, .int force]) (n := 7) (Nat.le_of_ble_eq_true rfl)
  rw [lg_entry_eq]
  generalize (lg_sl ([.ref h0, .int zone, .int month, .int dir, .int force]) ++ List.replicate (7 - (lg_sl ([.ref h0, .int zone, .int month, .int dir, .int force])).length) Slot.unset).toArray = ls at hl ⊢
  have hl : lv_has ls 7 [(0, .ref h0), (1, .int zone), (2, .int month), (3, .int dir), (4, .int force)] := hl
  have fl28 := hts (.fieldLink RX11 28 "BoatsHome" "sea" "LBoatsHome$Sea;") (by decide +kernel)
  have fl88 := hts (.fieldLink RX11 88 "BoatsHome$Sea" "winds" "[I") (by decide +kernel)
  have inX11 : ∀ w ∈ u_ws RX11 TX11 9, w ∈ wsX11_wind := by decide +kernel
  have inX8 : ∀ w ∈ u_ws RX8 TX8 2, w ∈ wsX11_wind := by decide +kernel
  refine lv_iload_n hx hb dX11_wind_0 rfl (lv_at hl 1 rfl) ?_
  refine lv_bipush (v := 24) hx hb dX11_wind_1 (by decide) ?_
  have hPc := hP.sub (ws' := []) [] rfl
  have hDc := hD.sub (ws' := []) [] (by decide) rfl
  have hFc := va_free (wc := []) hD hS hA [] rfl
  refine va_calli (va_runS (As := [.int zone, .int 24]) (rest := []) ⟨hx, hb, hml, hown, hts⟩ (c_X11_below l E zone 24 23 s.heap.size (lt_le (by decide))) (va_cwS 2 hts gX11_wind_X11_below rfl rfl rfl (by decide +kernel) ⟨Nat.le_of_ble_eq_true rfl, Nat.le_of_ble_eq_true rfl⟩) ⟨pcW_blind, (pcW_pre hPc hkn hDc hst hS hFc)⟩ rfl rfl hl.1 rfl (lv_room (Nat.le_of_ble_eq_true rfl)) dX11_wind_3 ⟨Nat.le_of_ble_eq_true rfl, Nat.le_of_ble_eq_true rfl⟩) hS (fun q _ h => hFc q h) hFc (fun r1 u t H1 locs ht hvm hw2 hB hz1 hk1 hS => ?_)
  obtain ⟨hP1, hD1⟩ := hB
  rw [ht] at hP1
  try dsimp only at hw2
  obtain ⟨hP, hD⟩ := va_join (wr := [(h0, .inr (11, [.ref tp, .ref rd, .ref se, .ref ba, .ref of, .ref pl, .ref sr, .ref sc, .int 0])), (se, .inr (8, [.ref wi, .ref po])), (wi, .inl (E.2 0, 288, .inl (fun _ => 0)))]) (w1 := []) hP hD [] [0, 1, 2] rfl rfl (by decide) (by decide) hk1 hFc hP1 hD1
  generalize H1 = H at hP hS ⊢
  have hP : va_P E.1 vwCl [(h0, .inr (11, [.ref tp, .ref rd, .ref se, .ref ba, .ref of, .ref pl, .ref sr, .ref sc, .int 0])), (se, .inr (8, [.ref wi, .ref po])), (wi, .inl (E.2 0, 288, .inl (fun _ => 0)))] H := hP
  have hD : va_D A [(h0, .inr (11, [.ref tp, .ref rd, .ref se, .ref ba, .ref of, .ref pl, .ref sr, .ref sc, .int 0])), (se, .inr (8, [.ref wi, .ref po])), (wi, .inl (E.2 0, 288, .inl (fun _ => 0)))] := hD
  refine lv_if_eq (tgt := 38) hx hb dX11_wind_6 (by decide) (fun c3 => ?_) (fun c3 => ?_)
  · have b4 : inR zone 0 23 = false := bz hw2 c3
    refine lv_bipush (v := (-2)) hx hb dX11_wind_38 (by decide) ?_
    have hP9 := hP.sub (ws' := []) [] rfl
    have hD9 := hD.sub (ws' := []) [] (by decide) rfl
    exact W.iret (v := (-2)) hx hb hr (fun t ht hW => ⟨⟨(-2), (), rfl, (by first | (rw [b4]; done) | (rw [b4]; rfl)), by rw [ht]; exact hP9, hD9⟩, hS.F ht⟩) hS.2.2 dX11_wind_40
  · have b5 : inR zone 0 23 = true := bn hw2 c3
    refine lv_iload_n hx hb dX11_wind_9 rfl (lv_at hl 2 rfl) ?_
    refine lv_bipush (v := 12) hx hb dX11_wind_10 (by decide) ?_
    have hPc := hP.sub (ws' := []) [] rfl
    have hDc := hD.sub (ws' := []) [] (by decide) rfl
    have hFc := va_free (wc := []) hD hS hA [] rfl
    refine va_calli (va_runS (As := [.int month, .int 12]) (rest := []) ⟨hx, hb, hml, hown, hts⟩ (c_X11_below l E month 12 11 H.size (lt_le (by decide))) (va_cwS 2 hts gX11_wind_X11_below rfl rfl rfl (by decide +kernel) ⟨Nat.le_of_ble_eq_true rfl, Nat.le_of_ble_eq_true rfl⟩) ⟨pcW_blind, (pcW_pre hPc hkn hDc hst hS hFc)⟩ rfl rfl hl.1 rfl (lv_room (Nat.le_of_ble_eq_true rfl)) dX11_wind_12 ⟨Nat.le_of_ble_eq_true rfl, Nat.le_of_ble_eq_true rfl⟩) hS (fun q _ h => hFc q h) hFc (fun r6 u t H1 locs ht hvm hw7 hB hz1 hk1 hS => ?_)
    obtain ⟨hP1, hD1⟩ := hB
    rw [ht] at hP1
    try dsimp only at hw7
    obtain ⟨hP, hD⟩ := va_join (wr := [(h0, .inr (11, [.ref tp, .ref rd, .ref se, .ref ba, .ref of, .ref pl, .ref sr, .ref sc, .int 0])), (se, .inr (8, [.ref wi, .ref po])), (wi, .inl (E.2 0, 288, .inl (fun _ => 0)))]) (w1 := []) hP hD [] [0, 1, 2] rfl rfl (by decide) (by decide) hk1 hFc hP1 hD1
    generalize H1 = H at hP hS ⊢
    have hP : va_P E.1 vwCl [(h0, .inr (11, [.ref tp, .ref rd, .ref se, .ref ba, .ref of, .ref pl, .ref sr, .ref sc, .int 0])), (se, .inr (8, [.ref wi, .ref po])), (wi, .inl (E.2 0, 288, .inl (fun _ => 0)))] H := hP
    have hD : va_D A [(h0, .inr (11, [.ref tp, .ref rd, .ref se, .ref ba, .ref of, .ref pl, .ref sr, .ref sc, .int 0])), (se, .inr (8, [.ref wi, .ref po])), (wi, .inl (E.2 0, 288, .inl (fun _ => 0)))] := hD
    refine lv_if_eq (tgt := 38) hx hb dX11_wind_15 (by decide) (fun c8 => ?_) (fun c8 => ?_)
    · have b9 : inR month 0 11 = false := bz hw7 c8
      refine lv_bipush (v := (-2)) hx hb dX11_wind_38 (by decide) ?_
      have hP9 := hP.sub (ws' := []) [] rfl
      have hD9 := hD.sub (ws' := []) [] (by decide) rfl
      exact W.iret (v := (-2)) hx hb hr (fun t ht hW => ⟨⟨(-2), (), rfl, (by first | (rw [b5, b9]; done) | (rw [b5, b9]; rfl)), by rw [ht]; exact hP9, hD9⟩, hS.F ht⟩) hS.2.2 dX11_wind_40
    · have b10 : inR month 0 11 = true := bn hw7 c8
      refine lv_iload_n hx hb dX11_wind_18 rfl (lv_at hl 3 rfl) ?_
      refine lv_bipush (v := 8) hx hb dX11_wind_19 (by decide) ?_
      have hPc := hP.sub (ws' := []) [] rfl
      have hDc := hD.sub (ws' := []) [] (by decide) rfl
      have hFc := va_free (wc := []) hD hS hA [] rfl
      refine va_calli (va_runS (As := [.int dir, .int 8]) (rest := []) ⟨hx, hb, hml, hown, hts⟩ (c_X11_below l E dir 8 7 H.size (lt_le (by decide))) (va_cwS 2 hts gX11_wind_X11_below rfl rfl rfl (by decide +kernel) ⟨Nat.le_of_ble_eq_true rfl, Nat.le_of_ble_eq_true rfl⟩) ⟨pcW_blind, (pcW_pre hPc hkn hDc hst hS hFc)⟩ rfl rfl hl.1 rfl (lv_room (Nat.le_of_ble_eq_true rfl)) dX11_wind_21 ⟨Nat.le_of_ble_eq_true rfl, Nat.le_of_ble_eq_true rfl⟩) hS (fun q _ h => hFc q h) hFc (fun r11 u t H1 locs ht hvm hw12 hB hz1 hk1 hS => ?_)
      obtain ⟨hP1, hD1⟩ := hB
      rw [ht] at hP1
      try dsimp only at hw12
      obtain ⟨hP, hD⟩ := va_join (wr := [(h0, .inr (11, [.ref tp, .ref rd, .ref se, .ref ba, .ref of, .ref pl, .ref sr, .ref sc, .int 0])), (se, .inr (8, [.ref wi, .ref po])), (wi, .inl (E.2 0, 288, .inl (fun _ => 0)))]) (w1 := []) hP hD [] [0, 1, 2] rfl rfl (by decide) (by decide) hk1 hFc hP1 hD1
      generalize H1 = H at hP hS ⊢
      have hP : va_P E.1 vwCl [(h0, .inr (11, [.ref tp, .ref rd, .ref se, .ref ba, .ref of, .ref pl, .ref sr, .ref sc, .int 0])), (se, .inr (8, [.ref wi, .ref po])), (wi, .inl (E.2 0, 288, .inl (fun _ => 0)))] H := hP
      have hD : va_D A [(h0, .inr (11, [.ref tp, .ref rd, .ref se, .ref ba, .ref of, .ref pl, .ref sr, .ref sc, .int 0])), (se, .inr (8, [.ref wi, .ref po])), (wi, .inl (E.2 0, 288, .inl (fun _ => 0)))] := hD
      refine lv_if_eq (tgt := 38) hx hb dX11_wind_24 (by decide) (fun c13 => ?_) (fun c13 => ?_)
      · have b14 : inR dir 0 7 = false := bz hw12 c13
        refine lv_bipush (v := (-2)) hx hb dX11_wind_38 (by decide) ?_
        have hP9 := hP.sub (ws' := []) [] rfl
        have hD9 := hD.sub (ws' := []) [] (by decide) rfl
        exact W.iret (v := (-2)) hx hb hr (fun t ht hW => ⟨⟨(-2), (), rfl, (by first | (rw [b5, b10, b14]; done) | (rw [b5, b10, b14]; rfl)), by rw [ht]; exact hP9, hD9⟩, hS.F ht⟩) hS.2.2 dX11_wind_40
      · have b15 : inR dir 0 7 = true := bn hw12 c13
        refine lv_iload hx hb dX11_wind_27 (lv_at hl 4 rfl) ?_
        refine lv_iconst (v := 0) hx hb dX11_wind_29 (by decide) ?_
        refine lv_bipush (v := 9) hx hb dX11_wind_30 (by decide) ?_
        have hPc := hP.sub (ws' := []) [] rfl
        have hDc := hD.sub (ws' := []) [] (by decide) rfl
        have hFc := va_free (wc := []) hD hS hA [] rfl
        refine va_calli (va_runS (As := [.int force, .int 0, .int 9]) (rest := []) ⟨hx, hb, hml, hown, hts⟩ (c_X11_within l E force 0 9 H.size ) (va_cwS 3 hts gX11_wind_X11_within rfl rfl rfl (by decide +kernel) ⟨Nat.le_of_ble_eq_true rfl, Nat.le_of_ble_eq_true rfl⟩) ⟨pcW_blind, (pcW_pre hPc hkn hDc hst hS hFc)⟩ rfl rfl hl.1 rfl (lv_room (Nat.le_of_ble_eq_true rfl)) dX11_wind_32 ⟨Nat.le_of_ble_eq_true rfl, Nat.le_of_ble_eq_true rfl⟩) hS (fun q _ h => hFc q h) hFc (fun r16 u t H1 locs ht hvm hw17 hB hz1 hk1 hS => ?_)
        obtain ⟨hP1, hD1⟩ := hB
        rw [ht] at hP1
        try dsimp only at hw17
        obtain ⟨hP, hD⟩ := va_join (wr := [(h0, .inr (11, [.ref tp, .ref rd, .ref se, .ref ba, .ref of, .ref pl, .ref sr, .ref sc, .int 0])), (se, .inr (8, [.ref wi, .ref po])), (wi, .inl (E.2 0, 288, .inl (fun _ => 0)))]) (w1 := []) hP hD [] [0, 1, 2] rfl rfl (by decide) (by decide) hk1 hFc hP1 hD1
        generalize H1 = H at hP hS ⊢
        have hP : va_P E.1 vwCl [(h0, .inr (11, [.ref tp, .ref rd, .ref se, .ref ba, .ref of, .ref pl, .ref sr, .ref sc, .int 0])), (se, .inr (8, [.ref wi, .ref po])), (wi, .inl (E.2 0, 288, .inl (fun _ => 0)))] H := hP
        have hD : va_D A [(h0, .inr (11, [.ref tp, .ref rd, .ref se, .ref ba, .ref of, .ref pl, .ref sr, .ref sc, .int 0])), (se, .inr (8, [.ref wi, .ref po])), (wi, .inl (E.2 0, 288, .inl (fun _ => 0)))] := hD
        refine lv_if_ne (tgt := 41) hx hb dX11_wind_35 (by decide) (fun c18 => ?_) (fun c18 => ?_)
        · have b19 : inR force 0 9 = true := bn hw17 c18
          refine lv_iload_n hx hb dX11_wind_41 rfl (lv_at hl 1 rfl) ?_
          refine lv_bipush (v := 12) hx hb dX11_wind_42 (by decide) ?_
          refine lv_imul hx hb dX11_wind_44 ?_
          refine lv_topi (fun x20 ex20 => ?_)
          refine lv_iload_n hx hb dX11_wind_45 rfl (lv_at hl 2 rfl) ?_
          refine lv_iadd hx hb dX11_wind_46 ?_
          refine lv_topi (fun x21 ex21 => ?_)
          refine lv_istore (lv' := [(5, .int x21), (0, .ref h0), (1, .int zone), (2, .int month), (3, .int dir), (4, .int force)]) hx hb dX11_wind_47 hl (by decide) rfl (fun ls hl => ?_)
          refine lv_aload_n hx hb dX11_wind_49 rfl (lv_at hl 1 rfl) ?_
          refine va_get (D := E.1) (ci := 11) (v := .ref se) (C := RX11) (T := TX11) (N := 9) hx hb hts inX11 hown hK hP 0 rfl rfl 2 (by decide) fl28 (fun _ h9 => h9) rfl dX11_wind_50 ?_
          refine va_get (D := E.1) (ci := 8) (v := .ref wi) (C := RX8) (T := TX8) (N := 2) hx hb hts inX8 hown hK hP 1 rfl rfl 0 (by decide) fl88 (fun _ h9 => h9) rfl dX11_wind_53 ?_
          refine lv_iload hx hb dX11_wind_56 (lv_at hl 0 rfl) ?_
          have hi22 : vp_in x21 288 := by rw [ex21, ex20]; exact ixA b5 (a := 23) (by decide) b10 (b := 11) (by decide) (M := 12) rfl (by decide) (by decide)
          refine va_iald hx hb hK hP 2 0 rfl rfl hi22 dX11_wind_58 ?_
          refine lv_istore (lv' := [(6, .int 0), (5, .int x21), (0, .ref h0), (1, .int zone), (2, .int month), (3, .int dir), (4, .int force)]) hx hb dX11_wind_59 hl (by decide) rfl (fun ls hl => ?_)
          refine lv_aload_n hx hb dX11_wind_61 rfl (lv_at hl 2 rfl) ?_
          refine va_get (D := E.1) (ci := 11) (v := .ref se) (C := RX11) (T := TX11) (N := 9) hx hb hts inX11 hown hK hP 0 rfl rfl 2 (by decide) fl28 (fun _ h9 => h9) rfl dX11_wind_62 ?_
          refine va_get (D := E.1) (ci := 8) (v := .ref wi) (C := RX8) (T := TX8) (N := 2) hx hb hts inX8 hown hK hP 1 rfl rfl 0 (by decide) fl88 (fun _ h9 => h9) rfl dX11_wind_65 ?_
          refine lv_iload hx hb dX11_wind_68 (lv_at hl 1 rfl) ?_
          refine lv_bipush (v := 10) hx hb dX11_wind_70 (by decide) ?_
          refine lv_iload_n hx hb dX11_wind_72 rfl (lv_at hl 5 rfl) ?_
          refine lv_imul hx hb dX11_wind_73 ?_
          refine lv_topi (fun x23 ex23 => ?_)
          refine lv_iload hx hb dX11_wind_74 (lv_at hl 6 rfl) ?_
          refine lv_iadd hx hb dX11_wind_76 ?_
          refine lv_topi (fun x24 ex24 => ?_)
          refine va_iast hx hb hK hP hD hS 2 0 rfl rfl hi22 dX11_wind_77 (fun H locs hP hD hS => ?_)
          have hP : va_P E.1 vwCl [(h0, .inr (11, [.ref tp, .ref rd, .ref se, .ref ba, .ref of, .ref pl, .ref sr, .ref sc, .int 0])), (se, .inr (8, [.ref wi, .ref po])), (wi, .inl (E.2 0, 288, .inl (upd (fun _ => 0) x21.toNatClampNeg x24)))] H := hP
          have hD : va_D A [(h0, .inr (11, [.ref tp, .ref rd, .ref se, .ref ba, .ref of, .ref pl, .ref sr, .ref sc, .int 0])), (se, .inr (8, [.ref wi, .ref po])), (wi, .inl (E.2 0, 288, .inl (upd (fun _ => 0) x21.toNatClampNeg x24)))] := hD
          obtain ⟨f25, ef25⟩ : ∃ g : Nat → Int32, g = upd (fun _ => 0) x21.toNatClampNeg x24 := ⟨_, rfl⟩
          rw [← ef25] at hP hD
          refine lv_iload hx hb dX11_wind_78 (lv_at hl 0 rfl) ?_
          have hP9 := hP.sub (ws' := []) [] rfl
          have hD9 := hD.sub (ws' := []) [] (by decide) rfl
          exact W.iret (v := 0) hx hb hr (fun t ht hW => ⟨⟨0, (), rfl, (by first | (rw [b5, b10, b15, b19]; done) | (rw [b5, b10, b15, b19]; rfl)), by rw [ht]; exact hP9, hD9⟩, hS.F ht⟩) hS.2.2 dX11_wind_80
        · have b26 : inR force 0 9 = false := bz hw17 c18
          refine lv_bipush (v := (-2)) hx hb dX11_wind_38 (by decide) ?_
          have hP9 := hP.sub (ws' := []) [] rfl
          have hD9 := hD.sub (ws' := []) [] (by decide) rfl
          exact W.iret (v := (-2)) hx hb hr (fun t ht hW => ⟨⟨(-2), (), rfl, (by first | (rw [b5, b10, b15, b26]; done) | (rw [b5, b10, b15, b26]; rfl)), by rw [ht]; exact hP9, hD9⟩, hS.F ht⟩) hS.2.2 dX11_wind_40
set_option maxHeartbeats 4000000 in
set_option maxRecDepth 100000 in
theorem c_X11_port (l : Launch) (E : vE) (h0 : Nat) (tp : Nat) (rd : Nat) (se : Nat) (ba : Nat) (of : Nat) (pl : Nat) (sr : Nat) (sc : Nat) (wi : Nat) (po : Nat) (pp : Int32) (place : Int32) (sz : Nat) : Met l yX11_port wsX11_port ({ frames := 2, cells := 0, slots := 0, locals := 40 }) (pcW E [.ref h0, .int pp, .int place] sz [(h0, .inr (11, [.ref tp, .ref rd, .ref se, .ref ba, .ref of, .ref pl, .ref sr, .ref sc, .int 0])), (se, .inr (8, [.ref wi, .ref po])), (po, .inl (E.2 0, 10, .inl (fun _ => 0)))]) (va_Qi (fun (r : Int32) (_ : Unit) => r = cond (inR pp 0 9 && isPl place) 0 (-2)) (fun (_ : Unit) (t : State) => wB E (va_A [(h0, .inr (11, [.ref tp, .ref rd, .ref se, .ref ba, .ref of, .ref pl, .ref sr, .ref sc, .int 0])), (se, .inr (8, [.ref wi, .ref po])), (po, .inl (E.2 0, 10, .inl (fun _ => 0)))] sz) [] t) (va_A [(h0, .inr (11, [.ref tp, .ref rd, .ref se, .ref ba, .ref of, .ref pl, .ref sr, .ref sc, .int 0])), (se, .inr (8, [.ref wi, .ref po])), (po, .inl (E.2 0, 10, .inl (fun _ => 0)))] sz)) 0 0 (va_A [(h0, .inr (11, [.ref tp, .ref rd, .ref se, .ref ba, .ref of, .ref pl, .ref sr, .ref sc, .int 0])), (se, .inr (8, [.ref wi, .ref po])), (po, .inl (E.2 0, 10, .inl (fun _ => 0)))] sz) := by
  refine Met.ofW (cc := cX11_port) (maxL := 4) (ret := (some .int)) (by decide) rfl ?_
  intro p e s m args below meth c s₁ B hml hv
  obtain ⟨rfl, hsz, hP, hkn, hD0, hst⟩ := hv
  have hx := B.exec
  have hb := B.bytes
  have hr := B.returns
  have hts := atoms_spec (ws := wsX11_port) B.pre
  have hown : s.vm.findClass RX11 = some m.cls := findClass_of_methodNamed B.named
  have hlocks := B.notSynchronized
  subst hsz
  have hD := hD0.self (sz := s.heap.size)
  have hK := hkn.1
  have hAO := hkn.2.2
  generalize hAe : va_A [(h0, .inr (11, [.ref tp, .ref rd, .ref se, .ref ba, .ref of, .ref pl, .ref sr, .ref sc, .int 0])), (se, .inr (8, [.ref wi, .ref po])), (po, .inl (E.2 0, 10, .inl (fun _ => 0)))] s.heap.size = A at hD hst ⊢
  have hA : ∀ q : Nat, s.heap.size ≤ q → A q := fun q h => by rw [← hAe]; exact Or.inr h
  have hS : va_S A s.heap s.heap [] := va_S.rf
  have hP : va_P E.1 vwCl [(h0, .inr (11, [.ref tp, .ref rd, .ref se, .ref ba, .ref of, .ref pl, .ref sr, .ref sc, .int 0])), (se, .inr (8, [.ref wi, .ref po])), (po, .inl (E.2 0, 10, .inl (fun _ => 0)))] s.heap := hP
  have hl := lv_entry ([.ref h0, .int pp, .int place]) (n := 4) (Nat.le_of_ble_eq_true rfl)
  rw [lg_entry_eq]
  generalize (lg_sl ([.ref h0, .int pp, .int place]) ++ List.replicate (4 - (lg_sl ([.ref h0, .int pp, .int place])).length) Slot.unset).toArray = ls at hl ⊢
  have hl : lv_has ls 4 [(0, .ref h0), (1, .int pp), (2, .int place)] := hl
  have fl28 := hts (.fieldLink RX11 28 "BoatsHome" "sea" "LBoatsHome$Sea;") (by decide +kernel)
  have fl96 := hts (.fieldLink RX11 96 "BoatsHome$Sea" "ports" "[I") (by decide +kernel)
  have inX11 : ∀ w ∈ u_ws RX11 TX11 9, w ∈ wsX11_port := by decide +kernel
  have inX8 : ∀ w ∈ u_ws RX8 TX8 2, w ∈ wsX11_port := by decide +kernel
  refine lv_iload_n hx hb dX11_port_0 rfl (lv_at hl 1 rfl) ?_
  refine lv_bipush (v := 10) hx hb dX11_port_1 (by decide) ?_
  have hPc := hP.sub (ws' := []) [] rfl
  have hDc := hD.sub (ws' := []) [] (by decide) rfl
  have hFc := va_free (wc := []) hD hS hA [] rfl
  refine va_calli (va_runS (As := [.int pp, .int 10]) (rest := []) ⟨hx, hb, hml, hown, hts⟩ (c_X11_below l E pp 10 9 s.heap.size (lt_le (by decide))) (va_cwS 2 hts gX11_port_X11_below rfl rfl rfl (by decide +kernel) ⟨Nat.le_of_ble_eq_true rfl, Nat.le_of_ble_eq_true rfl⟩) ⟨pcW_blind, (pcW_pre hPc hkn hDc hst hS hFc)⟩ rfl rfl hl.1 rfl (lv_room (Nat.le_of_ble_eq_true rfl)) dX11_port_3 ⟨Nat.le_of_ble_eq_true rfl, Nat.le_of_ble_eq_true rfl⟩) hS (fun q _ h => hFc q h) hFc (fun r1 u t H1 locs ht hvm hw2 hB hz1 hk1 hS => ?_)
  obtain ⟨hP1, hD1⟩ := hB
  rw [ht] at hP1
  try dsimp only at hw2
  obtain ⟨hP, hD⟩ := va_join (wr := [(h0, .inr (11, [.ref tp, .ref rd, .ref se, .ref ba, .ref of, .ref pl, .ref sr, .ref sc, .int 0])), (se, .inr (8, [.ref wi, .ref po])), (po, .inl (E.2 0, 10, .inl (fun _ => 0)))]) (w1 := []) hP hD [] [0, 1, 2] rfl rfl (by decide) (by decide) hk1 hFc hP1 hD1
  generalize H1 = H at hP hS ⊢
  have hP : va_P E.1 vwCl [(h0, .inr (11, [.ref tp, .ref rd, .ref se, .ref ba, .ref of, .ref pl, .ref sr, .ref sc, .int 0])), (se, .inr (8, [.ref wi, .ref po])), (po, .inl (E.2 0, 10, .inl (fun _ => 0)))] H := hP
  have hD : va_D A [(h0, .inr (11, [.ref tp, .ref rd, .ref se, .ref ba, .ref of, .ref pl, .ref sr, .ref sc, .int 0])), (se, .inr (8, [.ref wi, .ref po])), (po, .inl (E.2 0, 10, .inl (fun _ => 0)))] := hD
  refine lv_if_eq (tgt := 16) hx hb dX11_port_6 (by decide) (fun c3 => ?_) (fun c3 => ?_)
  · have b4 : inR pp 0 9 = false := bz hw2 c3
    refine lv_bipush (v := (-2)) hx hb dX11_port_16 (by decide) ?_
    have hP9 := hP.sub (ws' := []) [] rfl
    have hD9 := hD.sub (ws' := []) [] (by decide) rfl
    exact W.iret (v := (-2)) hx hb hr (fun t ht hW => ⟨⟨(-2), (), rfl, (by first | (rw [b4]; done) | (rw [b4]; rfl)), by rw [ht]; exact hP9, hD9⟩, hS.F ht⟩) hS.2.2 dX11_port_18
  · have b5 : inR pp 0 9 = true := bn hw2 c3
    refine lv_iload_n hx hb dX11_port_9 rfl (lv_at hl 2 rfl) ?_
    have hPc := hP.sub (ws' := []) [] rfl
    have hDc := hD.sub (ws' := []) [] (by decide) rfl
    have hFc := va_free (wc := []) hD hS hA [] rfl
    refine va_calli (va_runS (As := [.int place]) (rest := []) ⟨hx, hb, hml, hown, hts⟩ (c_X11_isPlace l E place H.size ) (va_cwS 1 hts gX11_port_X11_isPlace rfl rfl rfl (by decide +kernel) ⟨Nat.le_of_ble_eq_true rfl, Nat.le_of_ble_eq_true rfl⟩) ⟨pcW_blind, (pcW_pre hPc hkn hDc hst hS hFc)⟩ rfl rfl hl.1 rfl (lv_room (Nat.le_of_ble_eq_true rfl)) dX11_port_10 ⟨Nat.le_of_ble_eq_true rfl, Nat.le_of_ble_eq_true rfl⟩) hS (fun q _ h => hFc q h) hFc (fun r6 u t H1 locs ht hvm hw7 hB hz1 hk1 hS => ?_)
    obtain ⟨hP1, hD1⟩ := hB
    rw [ht] at hP1
    try dsimp only at hw7
    obtain ⟨hP, hD⟩ := va_join (wr := [(h0, .inr (11, [.ref tp, .ref rd, .ref se, .ref ba, .ref of, .ref pl, .ref sr, .ref sc, .int 0])), (se, .inr (8, [.ref wi, .ref po])), (po, .inl (E.2 0, 10, .inl (fun _ => 0)))]) (w1 := []) hP hD [] [0, 1, 2] rfl rfl (by decide) (by decide) hk1 hFc hP1 hD1
    generalize H1 = H at hP hS ⊢
    have hP : va_P E.1 vwCl [(h0, .inr (11, [.ref tp, .ref rd, .ref se, .ref ba, .ref of, .ref pl, .ref sr, .ref sc, .int 0])), (se, .inr (8, [.ref wi, .ref po])), (po, .inl (E.2 0, 10, .inl (fun _ => 0)))] H := hP
    have hD : va_D A [(h0, .inr (11, [.ref tp, .ref rd, .ref se, .ref ba, .ref of, .ref pl, .ref sr, .ref sc, .int 0])), (se, .inr (8, [.ref wi, .ref po])), (po, .inl (E.2 0, 10, .inl (fun _ => 0)))] := hD
    refine lv_if_ne (tgt := 19) hx hb dX11_port_13 (by decide) (fun c8 => ?_) (fun c8 => ?_)
    · have b9 : isPl place = true := bn hw7 c8
      refine lv_aload_n hx hb dX11_port_19 rfl (lv_at hl 0 rfl) ?_
      refine va_get (D := E.1) (ci := 11) (v := .ref se) (C := RX11) (T := TX11) (N := 9) hx hb hts inX11 hown hK hP 0 rfl rfl 2 (by decide) fl28 (fun _ h9 => h9) rfl dX11_port_20 ?_
      refine va_get (D := E.1) (ci := 8) (v := .ref po) (C := RX8) (T := TX8) (N := 2) hx hb hts inX8 hown hK hP 1 rfl rfl 1 (by decide) fl96 (fun _ h9 => h9) rfl dX11_port_23 ?_
      refine lv_iload_n hx hb dX11_port_26 rfl (lv_at hl 1 rfl) ?_
      have hi10 : vp_in pp 10 := inR_in (by decide) b5
      refine va_iald hx hb hK hP 2 0 rfl rfl hi10 dX11_port_27 ?_
      refine lv_istore_n (lv' := [(3, .int 0), (0, .ref h0), (1, .int pp), (2, .int place)]) hx hb dX11_port_28 rfl hl (by decide) rfl (fun ls hl => ?_)
      refine lv_aload_n hx hb dX11_port_29 rfl (lv_at hl 1 rfl) ?_
      refine va_get (D := E.1) (ci := 11) (v := .ref se) (C := RX11) (T := TX11) (N := 9) hx hb hts inX11 hown hK hP 0 rfl rfl 2 (by decide) fl28 (fun _ h9 => h9) rfl dX11_port_30 ?_
      refine va_get (D := E.1) (ci := 8) (v := .ref po) (C := RX8) (T := TX8) (N := 2) hx hb hts inX8 hown hK hP 1 rfl rfl 1 (by decide) fl96 (fun _ h9 => h9) rfl dX11_port_33 ?_
      refine lv_iload_n hx hb dX11_port_36 rfl (lv_at hl 2 rfl) ?_
      refine lv_iload_n hx hb dX11_port_37 rfl (lv_at hl 3 rfl) ?_
      refine va_iast hx hb hK hP hD hS 2 0 rfl rfl hi10 dX11_port_38 (fun H locs hP hD hS => ?_)
      have hP : va_P E.1 vwCl [(h0, .inr (11, [.ref tp, .ref rd, .ref se, .ref ba, .ref of, .ref pl, .ref sr, .ref sc, .int 0])), (se, .inr (8, [.ref wi, .ref po])), (po, .inl (E.2 0, 10, .inl (upd (fun _ => 0) pp.toNatClampNeg place)))] H := hP
      have hD : va_D A [(h0, .inr (11, [.ref tp, .ref rd, .ref se, .ref ba, .ref of, .ref pl, .ref sr, .ref sc, .int 0])), (se, .inr (8, [.ref wi, .ref po])), (po, .inl (E.2 0, 10, .inl (upd (fun _ => 0) pp.toNatClampNeg place)))] := hD
      obtain ⟨f11, ef11⟩ : ∃ g : Nat → Int32, g = upd (fun _ => 0) pp.toNatClampNeg place := ⟨_, rfl⟩
      rw [← ef11] at hP hD
      refine lv_iload_n hx hb dX11_port_39 rfl (lv_at hl 0 rfl) ?_
      have hP9 := hP.sub (ws' := []) [] rfl
      have hD9 := hD.sub (ws' := []) [] (by decide) rfl
      exact W.iret (v := 0) hx hb hr (fun t ht hW => ⟨⟨0, (), rfl, (by first | (rw [b5, b9]; done) | (rw [b5, b9]; rfl)), by rw [ht]; exact hP9, hD9⟩, hS.F ht⟩) hS.2.2 dX11_port_40
    · have b12 : isPl place = false := bz hw7 c8
      refine lv_bipush (v := (-2)) hx hb dX11_port_16 (by decide) ?_
      have hP9 := hP.sub (ws' := []) [] rfl
      have hD9 := hD.sub (ws' := []) [] (by decide) rfl
      exact W.iret (v := (-2)) hx hb hr (fun t ht hW => ⟨⟨(-2), (), rfl, (by first | (rw [b5, b12]; done) | (rw [b5, b12]; rfl)), by rw [ht]; exact hP9, hD9⟩, hS.F ht⟩) hS.2.2 dX11_port_18
set_option maxHeartbeats 4000000 in
set_option maxRecDepth 100000 in
theorem c_X11_speed (l : Launch) (E : vE) (h0 : Nat) (tp : Nat) (rd : Nat) (se : Nat) (ba : Nat) (of : Nat) (pl : Nat) (sr : Nat) (sc : Nat) (bo : Nat) (sp : Nat) (pa : Nat) (ru : Nat) (co : Nat) (tr : Nat) (fb : Nat → Option Nat) (b : Int32) (angle : Int32) (band : Int32) (tenths : Int32) (sz : Nat) (hfb : inR b 0 5 = true → fb b.toNatClampNeg = some bo) : Met l yX11_speed wsX11_speed ({ frames := 2, cells := 0, slots := 0, locals := 40 }) (pcW E [.ref h0, .int b, .int angle, .int band, .int tenths] sz [(h0, .inr (11, [.ref tp, .ref rd, .ref se, .ref ba, .ref of, .ref pl, .ref sr, .ref sc, .int 0])), (ba, .inl (E.2 4, 6, .inr (.inr (.inr (.inr fb))))), (bo, .inr (0, [.ref sp, .ref pa, .int 0, .ref ru, .ref co, .ref tr])), (sp, .inl (E.2 0, 25, .inl (fun _ => 0)))]) (va_Qi (fun (r : Int32) (_ : Unit) => r = cond (inR b 0 5 && inR angle 0 4 && inR band 0 4 && inR tenths 0 40) 0 (-2)) (fun (_ : Unit) (t : State) => wB E (va_A [(h0, .inr (11, [.ref tp, .ref rd, .ref se, .ref ba, .ref of, .ref pl, .ref sr, .ref sc, .int 0])), (ba, .inl (E.2 4, 6, .inr (.inr (.inr (.inr fb))))), (bo, .inr (0, [.ref sp, .ref pa, .int 0, .ref ru, .ref co, .ref tr])), (sp, .inl (E.2 0, 25, .inl (fun _ => 0)))] sz) [] t) (va_A [(h0, .inr (11, [.ref tp, .ref rd, .ref se, .ref ba, .ref of, .ref pl, .ref sr, .ref sc, .int 0])), (ba, .inl (E.2 4, 6, .inr (.inr (.inr (.inr fb))))), (bo, .inr (0, [.ref sp, .ref pa, .int 0, .ref ru, .ref co, .ref tr])), (sp, .inl (E.2 0, 25, .inl (fun _ => 0)))] sz)) 0 0 (va_A [(h0, .inr (11, [.ref tp, .ref rd, .ref se, .ref ba, .ref of, .ref pl, .ref sr, .ref sc, .int 0])), (ba, .inl (E.2 4, 6, .inr (.inr (.inr (.inr fb))))), (bo, .inr (0, [.ref sp, .ref pa, .int 0, .ref ru, .ref co, .ref tr])), (sp, .inl (E.2 0, 25, .inl (fun _ => 0)))] sz) := by
  refine Met.ofW (cc := cX11_speed) (maxL := 7) (ret := (some .int)) (by decide) rfl ?_
  intro p e s m args below meth c s₁ B hml hv
  obtain ⟨rfl, hsz, hP, hkn, hD0, hst⟩ := hv
  have hx := B.exec
  have hb := B.bytes
  have hr := B.returns
  have hts := atoms_spec (ws := wsX11_speed) B.pre
  have hown : s.vm.findClass RX11 = some m.cls := findClass_of_methodNamed B.named
  have hlocks := B.notSynchronized
  subst hsz
  have hD := hD0.self (sz := s.heap.size)
  have hK := hkn.1
  have hAO := hkn.2.2
  generalize hAe : va_A [(h0, .inr (11, [.ref tp, .ref rd, .ref se, .ref ba, .ref of, .ref pl, .ref sr, .ref sc, .int 0])), (ba, .inl (E.2 4, 6, .inr (.inr (.inr (.inr fb))))), (bo, .inr (0, [.ref sp, .ref pa, .int 0, .ref ru, .ref co, .ref tr])), (sp, .inl (E.2 0, 25, .inl (fun _ => 0)))] s.heap.size = A at hD hst ⊢
  have hA : ∀ q : Nat, s.heap.size ≤ q → A q := fun q h => by rw [← hAe]; exact Or.inr h
  have hS : va_S A s.heap s.heap [] := va_S.rf
  have hP : va_P E.1 vwCl [(h0, .inr (11, [.ref tp, .ref rd, .ref se, .ref ba, .ref of, .ref pl, .ref sr, .ref sc, .int 0])), (ba, .inl (E.2 4, 6, .inr (.inr (.inr (.inr fb))))), (bo, .inr (0, [.ref sp, .ref pa, .int 0, .ref ru, .ref co, .ref tr])), (sp, .inl (E.2 0, 25, .inl (fun _ => 0)))] s.heap := hP
  have hl := lv_entry ([.ref h0, .int b, .int angle, .int band, .int tenths]) (n := 7) (Nat.le_of_ble_eq_true rfl)
  rw [lg_entry_eq]
  generalize (lg_sl ([.ref h0, .int b, .int angle, .int band, .int tenths]) ++ List.replicate (7 - (lg_sl ([.ref h0, .int b, .int angle, .int band, .int tenths])).length) Slot.unset).toArray = ls at hl ⊢
  have hl : lv_has ls 7 [(0, .ref h0), (1, .int b), (2, .int angle), (3, .int band), (4, .int tenths)] := hl
  have fl34 := hts (.fieldLink RX11 34 "BoatsHome" "boats" "[LBoatsHome$Boat;") (by decide +kernel)
  have fl99 := hts (.fieldLink RX11 99 "BoatsHome$Boat" "speeds" "[I") (by decide +kernel)
  have inX0 : ∀ w ∈ u_ws RX0 TX0 6, w ∈ wsX11_speed := by decide +kernel
  have inX11 : ∀ w ∈ u_ws RX11 TX11 9, w ∈ wsX11_speed := by decide +kernel
  refine lv_iload_n hx hb dX11_speed_0 rfl (lv_at hl 1 rfl) ?_
  refine lv_bipush (v := 6) hx hb dX11_speed_1 (by decide) ?_
  have hPc := hP.sub (ws' := []) [] rfl
  have hDc := hD.sub (ws' := []) [] (by decide) rfl
  have hFc := va_free (wc := []) hD hS hA [] rfl
  refine va_calli (va_runS (As := [.int b, .int 6]) (rest := []) ⟨hx, hb, hml, hown, hts⟩ (c_X11_below l E b 6 5 s.heap.size (lt_le (by decide))) (va_cwS 2 hts gX11_speed_X11_below rfl rfl rfl (by decide +kernel) ⟨Nat.le_of_ble_eq_true rfl, Nat.le_of_ble_eq_true rfl⟩) ⟨pcW_blind, (pcW_pre hPc hkn hDc hst hS hFc)⟩ rfl rfl hl.1 rfl (lv_room (Nat.le_of_ble_eq_true rfl)) dX11_speed_3 ⟨Nat.le_of_ble_eq_true rfl, Nat.le_of_ble_eq_true rfl⟩) hS (fun q _ h => hFc q h) hFc (fun r1 u t H1 locs ht hvm hw2 hB hz1 hk1 hS => ?_)
  obtain ⟨hP1, hD1⟩ := hB
  rw [ht] at hP1
  try dsimp only at hw2
  obtain ⟨hP, hD⟩ := va_join (wr := [(h0, .inr (11, [.ref tp, .ref rd, .ref se, .ref ba, .ref of, .ref pl, .ref sr, .ref sc, .int 0])), (ba, .inl (E.2 4, 6, .inr (.inr (.inr (.inr fb))))), (bo, .inr (0, [.ref sp, .ref pa, .int 0, .ref ru, .ref co, .ref tr])), (sp, .inl (E.2 0, 25, .inl (fun _ => 0)))]) (w1 := []) hP hD [] [0, 1, 2, 3] rfl rfl (by decide) (by decide) hk1 hFc hP1 hD1
  generalize H1 = H at hP hS ⊢
  have hP : va_P E.1 vwCl [(h0, .inr (11, [.ref tp, .ref rd, .ref se, .ref ba, .ref of, .ref pl, .ref sr, .ref sc, .int 0])), (ba, .inl (E.2 4, 6, .inr (.inr (.inr (.inr fb))))), (bo, .inr (0, [.ref sp, .ref pa, .int 0, .ref ru, .ref co, .ref tr])), (sp, .inl (E.2 0, 25, .inl (fun _ => 0)))] H := hP
  have hD : va_D A [(h0, .inr (11, [.ref tp, .ref rd, .ref se, .ref ba, .ref of, .ref pl, .ref sr, .ref sc, .int 0])), (ba, .inl (E.2 4, 6, .inr (.inr (.inr (.inr fb))))), (bo, .inr (0, [.ref sp, .ref pa, .int 0, .ref ru, .ref co, .ref tr])), (sp, .inl (E.2 0, 25, .inl (fun _ => 0)))] := hD
  refine lv_if_eq (tgt := 36) hx hb dX11_speed_6 (by decide) (fun c3 => ?_) (fun c3 => ?_)
  · have b4 : inR b 0 5 = false := bz hw2 c3
    refine lv_bipush (v := (-2)) hx hb dX11_speed_36 (by decide) ?_
    have hP9 := hP.sub (ws' := []) [] rfl
    have hD9 := hD.sub (ws' := []) [] (by decide) rfl
    exact W.iret (v := (-2)) hx hb hr (fun t ht hW => ⟨⟨(-2), (), rfl, (by first | (rw [b4]; done) | (rw [b4]; rfl)), by rw [ht]; exact hP9, hD9⟩, hS.F ht⟩) hS.2.2 dX11_speed_38
  · have b5 : inR b 0 5 = true := bn hw2 c3
    refine lv_iload_n hx hb dX11_speed_9 rfl (lv_at hl 2 rfl) ?_
    refine lv_iconst (v := 5) hx hb dX11_speed_10 (by decide) ?_
    have hPc := hP.sub (ws' := []) [] rfl
    have hDc := hD.sub (ws' := []) [] (by decide) rfl
    have hFc := va_free (wc := []) hD hS hA [] rfl
    refine va_calli (va_runS (As := [.int angle, .int 5]) (rest := []) ⟨hx, hb, hml, hown, hts⟩ (c_X11_below l E angle 5 4 H.size (lt_le (by decide))) (va_cwS 2 hts gX11_speed_X11_below rfl rfl rfl (by decide +kernel) ⟨Nat.le_of_ble_eq_true rfl, Nat.le_of_ble_eq_true rfl⟩) ⟨pcW_blind, (pcW_pre hPc hkn hDc hst hS hFc)⟩ rfl rfl hl.1 rfl (lv_room (Nat.le_of_ble_eq_true rfl)) dX11_speed_11 ⟨Nat.le_of_ble_eq_true rfl, Nat.le_of_ble_eq_true rfl⟩) hS (fun q _ h => hFc q h) hFc (fun r6 u t H1 locs ht hvm hw7 hB hz1 hk1 hS => ?_)
    obtain ⟨hP1, hD1⟩ := hB
    rw [ht] at hP1
    try dsimp only at hw7
    obtain ⟨hP, hD⟩ := va_join (wr := [(h0, .inr (11, [.ref tp, .ref rd, .ref se, .ref ba, .ref of, .ref pl, .ref sr, .ref sc, .int 0])), (ba, .inl (E.2 4, 6, .inr (.inr (.inr (.inr fb))))), (bo, .inr (0, [.ref sp, .ref pa, .int 0, .ref ru, .ref co, .ref tr])), (sp, .inl (E.2 0, 25, .inl (fun _ => 0)))]) (w1 := []) hP hD [] [0, 1, 2, 3] rfl rfl (by decide) (by decide) hk1 hFc hP1 hD1
    generalize H1 = H at hP hS ⊢
    have hP : va_P E.1 vwCl [(h0, .inr (11, [.ref tp, .ref rd, .ref se, .ref ba, .ref of, .ref pl, .ref sr, .ref sc, .int 0])), (ba, .inl (E.2 4, 6, .inr (.inr (.inr (.inr fb))))), (bo, .inr (0, [.ref sp, .ref pa, .int 0, .ref ru, .ref co, .ref tr])), (sp, .inl (E.2 0, 25, .inl (fun _ => 0)))] H := hP
    have hD : va_D A [(h0, .inr (11, [.ref tp, .ref rd, .ref se, .ref ba, .ref of, .ref pl, .ref sr, .ref sc, .int 0])), (ba, .inl (E.2 4, 6, .inr (.inr (.inr (.inr fb))))), (bo, .inr (0, [.ref sp, .ref pa, .int 0, .ref ru, .ref co, .ref tr])), (sp, .inl (E.2 0, 25, .inl (fun _ => 0)))] := hD
    refine lv_if_eq (tgt := 36) hx hb dX11_speed_14 (by decide) (fun c8 => ?_) (fun c8 => ?_)
    · have b9 : inR angle 0 4 = false := bz hw7 c8
      refine lv_bipush (v := (-2)) hx hb dX11_speed_36 (by decide) ?_
      have hP9 := hP.sub (ws' := []) [] rfl
      have hD9 := hD.sub (ws' := []) [] (by decide) rfl
      exact W.iret (v := (-2)) hx hb hr (fun t ht hW => ⟨⟨(-2), (), rfl, (by first | (rw [b5, b9]; done) | (rw [b5, b9]; rfl)), by rw [ht]; exact hP9, hD9⟩, hS.F ht⟩) hS.2.2 dX11_speed_38
    · have b10 : inR angle 0 4 = true := bn hw7 c8
      refine lv_iload_n hx hb dX11_speed_17 rfl (lv_at hl 3 rfl) ?_
      refine lv_iconst (v := 5) hx hb dX11_speed_18 (by decide) ?_
      have hPc := hP.sub (ws' := []) [] rfl
      have hDc := hD.sub (ws' := []) [] (by decide) rfl
      have hFc := va_free (wc := []) hD hS hA [] rfl
      refine va_calli (va_runS (As := [.int band, .int 5]) (rest := []) ⟨hx, hb, hml, hown, hts⟩ (c_X11_below l E band 5 4 H.size (lt_le (by decide))) (va_cwS 2 hts gX11_speed_X11_below rfl rfl rfl (by decide +kernel) ⟨Nat.le_of_ble_eq_true rfl, Nat.le_of_ble_eq_true rfl⟩) ⟨pcW_blind, (pcW_pre hPc hkn hDc hst hS hFc)⟩ rfl rfl hl.1 rfl (lv_room (Nat.le_of_ble_eq_true rfl)) dX11_speed_19 ⟨Nat.le_of_ble_eq_true rfl, Nat.le_of_ble_eq_true rfl⟩) hS (fun q _ h => hFc q h) hFc (fun r11 u t H1 locs ht hvm hw12 hB hz1 hk1 hS => ?_)
      obtain ⟨hP1, hD1⟩ := hB
      rw [ht] at hP1
      try dsimp only at hw12
      obtain ⟨hP, hD⟩ := va_join (wr := [(h0, .inr (11, [.ref tp, .ref rd, .ref se, .ref ba, .ref of, .ref pl, .ref sr, .ref sc, .int 0])), (ba, .inl (E.2 4, 6, .inr (.inr (.inr (.inr fb))))), (bo, .inr (0, [.ref sp, .ref pa, .int 0, .ref ru, .ref co, .ref tr])), (sp, .inl (E.2 0, 25, .inl (fun _ => 0)))]) (w1 := []) hP hD [] [0, 1, 2, 3] rfl rfl (by decide) (by decide) hk1 hFc hP1 hD1
      generalize H1 = H at hP hS ⊢
      have hP : va_P E.1 vwCl [(h0, .inr (11, [.ref tp, .ref rd, .ref se, .ref ba, .ref of, .ref pl, .ref sr, .ref sc, .int 0])), (ba, .inl (E.2 4, 6, .inr (.inr (.inr (.inr fb))))), (bo, .inr (0, [.ref sp, .ref pa, .int 0, .ref ru, .ref co, .ref tr])), (sp, .inl (E.2 0, 25, .inl (fun _ => 0)))] H := hP
      have hD : va_D A [(h0, .inr (11, [.ref tp, .ref rd, .ref se, .ref ba, .ref of, .ref pl, .ref sr, .ref sc, .int 0])), (ba, .inl (E.2 4, 6, .inr (.inr (.inr (.inr fb))))), (bo, .inr (0, [.ref sp, .ref pa, .int 0, .ref ru, .ref co, .ref tr])), (sp, .inl (E.2 0, 25, .inl (fun _ => 0)))] := hD
      refine lv_if_eq (tgt := 36) hx hb dX11_speed_22 (by decide) (fun c13 => ?_) (fun c13 => ?_)
      · have b14 : inR band 0 4 = false := bz hw12 c13
        refine lv_bipush (v := (-2)) hx hb dX11_speed_36 (by decide) ?_
        have hP9 := hP.sub (ws' := []) [] rfl
        have hD9 := hD.sub (ws' := []) [] (by decide) rfl
        exact W.iret (v := (-2)) hx hb hr (fun t ht hW => ⟨⟨(-2), (), rfl, (by first | (rw [b5, b10, b14]; done) | (rw [b5, b10, b14]; rfl)), by rw [ht]; exact hP9, hD9⟩, hS.F ht⟩) hS.2.2 dX11_speed_38
      · have b15 : inR band 0 4 = true := bn hw12 c13
        refine lv_iload hx hb dX11_speed_25 (lv_at hl 4 rfl) ?_
        refine lv_iconst (v := 0) hx hb dX11_speed_27 (by decide) ?_
        refine lv_bipush (v := 40) hx hb dX11_speed_28 (by decide) ?_
        have hPc := hP.sub (ws' := []) [] rfl
        have hDc := hD.sub (ws' := []) [] (by decide) rfl
        have hFc := va_free (wc := []) hD hS hA [] rfl
        refine va_calli (va_runS (As := [.int tenths, .int 0, .int 40]) (rest := []) ⟨hx, hb, hml, hown, hts⟩ (c_X11_within l E tenths 0 40 H.size ) (va_cwS 3 hts gX11_speed_X11_within rfl rfl rfl (by decide +kernel) ⟨Nat.le_of_ble_eq_true rfl, Nat.le_of_ble_eq_true rfl⟩) ⟨pcW_blind, (pcW_pre hPc hkn hDc hst hS hFc)⟩ rfl rfl hl.1 rfl (lv_room (Nat.le_of_ble_eq_true rfl)) dX11_speed_30 ⟨Nat.le_of_ble_eq_true rfl, Nat.le_of_ble_eq_true rfl⟩) hS (fun q _ h => hFc q h) hFc (fun r16 u t H1 locs ht hvm hw17 hB hz1 hk1 hS => ?_)
        obtain ⟨hP1, hD1⟩ := hB
        rw [ht] at hP1
        try dsimp only at hw17
        obtain ⟨hP, hD⟩ := va_join (wr := [(h0, .inr (11, [.ref tp, .ref rd, .ref se, .ref ba, .ref of, .ref pl, .ref sr, .ref sc, .int 0])), (ba, .inl (E.2 4, 6, .inr (.inr (.inr (.inr fb))))), (bo, .inr (0, [.ref sp, .ref pa, .int 0, .ref ru, .ref co, .ref tr])), (sp, .inl (E.2 0, 25, .inl (fun _ => 0)))]) (w1 := []) hP hD [] [0, 1, 2, 3] rfl rfl (by decide) (by decide) hk1 hFc hP1 hD1
        generalize H1 = H at hP hS ⊢
        have hP : va_P E.1 vwCl [(h0, .inr (11, [.ref tp, .ref rd, .ref se, .ref ba, .ref of, .ref pl, .ref sr, .ref sc, .int 0])), (ba, .inl (E.2 4, 6, .inr (.inr (.inr (.inr fb))))), (bo, .inr (0, [.ref sp, .ref pa, .int 0, .ref ru, .ref co, .ref tr])), (sp, .inl (E.2 0, 25, .inl (fun _ => 0)))] H := hP
        have hD : va_D A [(h0, .inr (11, [.ref tp, .ref rd, .ref se, .ref ba, .ref of, .ref pl, .ref sr, .ref sc, .int 0])), (ba, .inl (E.2 4, 6, .inr (.inr (.inr (.inr fb))))), (bo, .inr (0, [.ref sp, .ref pa, .int 0, .ref ru, .ref co, .ref tr])), (sp, .inl (E.2 0, 25, .inl (fun _ => 0)))] := hD
        refine lv_if_ne (tgt := 39) hx hb dX11_speed_33 (by decide) (fun c18 => ?_) (fun c18 => ?_)
        · have b19 : inR tenths 0 40 = true := bn hw17 c18
          refine lv_iload_n hx hb dX11_speed_39 rfl (lv_at hl 2 rfl) ?_
          refine lv_iconst (v := 5) hx hb dX11_speed_40 (by decide) ?_
          refine lv_imul hx hb dX11_speed_41 ?_
          refine lv_topi (fun x20 ex20 => ?_)
          refine lv_iload_n hx hb dX11_speed_42 rfl (lv_at hl 3 rfl) ?_
          refine lv_iadd hx hb dX11_speed_43 ?_
          refine lv_topi (fun x21 ex21 => ?_)
          refine lv_istore (lv' := [(5, .int x21), (0, .ref h0), (1, .int b), (2, .int angle), (3, .int band), (4, .int tenths)]) hx hb dX11_speed_44 hl (by decide) rfl (fun ls hl => ?_)
          refine lv_aload_n hx hb dX11_speed_46 rfl (lv_at hl 1 rfl) ?_
          refine va_get (D := E.1) (ci := 11) (v := .ref ba) (C := RX11) (T := TX11) (N := 9) hx hb hts inX11 hown hK hP 0 rfl rfl 3 (by decide) fl34 (fun _ h9 => h9) rfl dX11_speed_47 ?_
          refine lv_iload_n hx hb dX11_speed_50 rfl (lv_at hl 2 rfl) ?_
          have hi22 : vp_in b 6 := inR_in (by decide) b5
          refine va_aldq hx hb hK hP 1 4 rfl rfl hi22 dX11_speed_51 ?_
          rw [show va_rf (fb b.toNatClampNeg) = .ref bo from by rw [hfb b5]; rfl]
          refine va_get (D := E.1) (ci := 0) (v := .ref sp) (C := RX0) (T := TX0) (N := 6) hx hb hts inX0 hown hK hP 2 rfl rfl 0 (by decide) fl99 (fun _ h9 => h9) rfl dX11_speed_52 ?_
          refine lv_iload hx hb dX11_speed_55 (lv_at hl 0 rfl) ?_
          have hi23 : vp_in x21 25 := by rw [ex21, ex20]; exact ixA b10 (a := 4) (by decide) b15 (b := 4) (by decide) (M := 5) rfl (by decide) (by decide)
          refine va_iald hx hb hK hP 3 0 rfl rfl hi23 dX11_speed_57 ?_
          refine lv_istore (lv' := [(6, .int 0), (5, .int x21), (0, .ref h0), (1, .int b), (2, .int angle), (3, .int band), (4, .int tenths)]) hx hb dX11_speed_58 hl (by decide) rfl (fun ls hl => ?_)
          refine lv_aload_n hx hb dX11_speed_60 rfl (lv_at hl 2 rfl) ?_
          refine va_get (D := E.1) (ci := 11) (v := .ref ba) (C := RX11) (T := TX11) (N := 9) hx hb hts inX11 hown hK hP 0 rfl rfl 3 (by decide) fl34 (fun _ h9 => h9) rfl dX11_speed_61 ?_
          refine lv_iload_n hx hb dX11_speed_64 rfl (lv_at hl 3 rfl) ?_
          refine va_aldq hx hb hK hP 1 4 rfl rfl hi22 dX11_speed_65 ?_
          rw [show va_rf (fb b.toNatClampNeg) = .ref bo from by rw [hfb b5]; rfl]
          refine va_get (D := E.1) (ci := 0) (v := .ref sp) (C := RX0) (T := TX0) (N := 6) hx hb hts inX0 hown hK hP 2 rfl rfl 0 (by decide) fl99 (fun _ h9 => h9) rfl dX11_speed_66 ?_
          refine lv_iload hx hb dX11_speed_69 (lv_at hl 1 rfl) ?_
          refine lv_iload hx hb dX11_speed_71 (lv_at hl 6 rfl) ?_
          refine va_iast hx hb hK hP hD hS 3 0 rfl rfl hi23 dX11_speed_73 (fun H locs hP hD hS => ?_)
          have hP : va_P E.1 vwCl [(h0, .inr (11, [.ref tp, .ref rd, .ref se, .ref ba, .ref of, .ref pl, .ref sr, .ref sc, .int 0])), (ba, .inl (E.2 4, 6, .inr (.inr (.inr (.inr fb))))), (bo, .inr (0, [.ref sp, .ref pa, .int 0, .ref ru, .ref co, .ref tr])), (sp, .inl (E.2 0, 25, .inl (upd (fun _ => 0) x21.toNatClampNeg tenths)))] H := hP
          have hD : va_D A [(h0, .inr (11, [.ref tp, .ref rd, .ref se, .ref ba, .ref of, .ref pl, .ref sr, .ref sc, .int 0])), (ba, .inl (E.2 4, 6, .inr (.inr (.inr (.inr fb))))), (bo, .inr (0, [.ref sp, .ref pa, .int 0, .ref ru, .ref co, .ref tr])), (sp, .inl (E.2 0, 25, .inl (upd (fun _ => 0) x21.toNatClampNeg tenths)))] := hD
          obtain ⟨f24, ef24⟩ : ∃ g : Nat → Int32, g = upd (fun _ => 0) x21.toNatClampNeg tenths := ⟨_, rfl⟩
          rw [← ef24] at hP hD
          refine lv_iload hx hb dX11_speed_74 (lv_at hl 0 rfl) ?_
          have hP9 := hP.sub (ws' := []) [] rfl
          have hD9 := hD.sub (ws' := []) [] (by decide) rfl
          exact W.iret (v := 0) hx hb hr (fun t ht hW => ⟨⟨0, (), rfl, (by first | (rw [b5, b10, b15, b19]; done) | (rw [b5, b10, b15, b19]; rfl)), by rw [ht]; exact hP9, hD9⟩, hS.F ht⟩) hS.2.2 dX11_speed_76
        · have b25 : inR tenths 0 40 = false := bz hw17 c18
          refine lv_bipush (v := (-2)) hx hb dX11_speed_36 (by decide) ?_
          have hP9 := hP.sub (ws' := []) [] rfl
          have hD9 := hD.sub (ws' := []) [] (by decide) rfl
          exact W.iret (v := (-2)) hx hb hr (fun t ht hW => ⟨⟨(-2), (), rfl, (by first | (rw [b5, b10, b15, b25]; done) | (rw [b5, b10, b15, b25]; rfl)), by rw [ht]; exact hP9, hD9⟩, hS.F ht⟩) hS.2.2 dX11_speed_38
set_option maxHeartbeats 4000000 in
set_option maxRecDepth 100000 in
theorem c_X11_water (l : Launch) (E : vE) (h0 : Nat) (tp : Nat) (rd : Nat) (se : Nat) (ba : Nat) (of : Nat) (pl : Nat) (sr : Nat) (sc : Nat) (bo : Nat) (sp : Nat) (pa : Nat) (ru : Nat) (co : Nat) (tr : Nat) (fb : Nat → Option Nat) (b : Int32) (litres : Int32) (sz : Nat) (hfb : inR b 0 5 = true → fb b.toNatClampNeg = some bo) : Met l yX11_water wsX11_water ({ frames := 2, cells := 0, slots := 0, locals := 40 }) (pcW E [.ref h0, .int b, .int litres] sz [(h0, .inr (11, [.ref tp, .ref rd, .ref se, .ref ba, .ref of, .ref pl, .ref sr, .ref sc, .int 0])), (ba, .inl (E.2 4, 6, .inr (.inr (.inr (.inr fb))))), (bo, .inr (0, [.ref sp, .ref pa, .int 0, .ref ru, .ref co, .ref tr]))]) (va_Qi (fun (r : Int32) (_ : Unit) => r = cond (inR b 0 5 && inR litres 0 10000) 0 (-2)) (fun (_ : Unit) (t : State) => wB E (va_A [(h0, .inr (11, [.ref tp, .ref rd, .ref se, .ref ba, .ref of, .ref pl, .ref sr, .ref sc, .int 0])), (ba, .inl (E.2 4, 6, .inr (.inr (.inr (.inr fb))))), (bo, .inr (0, [.ref sp, .ref pa, .int 0, .ref ru, .ref co, .ref tr]))] sz) [] t) (va_A [(h0, .inr (11, [.ref tp, .ref rd, .ref se, .ref ba, .ref of, .ref pl, .ref sr, .ref sc, .int 0])), (ba, .inl (E.2 4, 6, .inr (.inr (.inr (.inr fb))))), (bo, .inr (0, [.ref sp, .ref pa, .int 0, .ref ru, .ref co, .ref tr]))] sz)) 0 0 (va_A [(h0, .inr (11, [.ref tp, .ref rd, .ref se, .ref ba, .ref of, .ref pl, .ref sr, .ref sc, .int 0])), (ba, .inl (E.2 4, 6, .inr (.inr (.inr (.inr fb))))), (bo, .inr (0, [.ref sp, .ref pa, .int 0, .ref ru, .ref co, .ref tr]))] sz) := by
  refine Met.ofW (cc := cX11_water) (maxL := 4) (ret := (some .int)) (by decide) rfl ?_
  intro p e s m args below meth c s₁ B hml hv
  obtain ⟨rfl, hsz, hP, hkn, hD0, hst⟩ := hv
  have hx := B.exec
  have hb := B.bytes
  have hr := B.returns
  have hts := atoms_spec (ws := wsX11_water) B.pre
  have hown : s.vm.findClass RX11 = some m.cls := findClass_of_methodNamed B.named
  have hlocks := B.notSynchronized
  subst hsz
  have hD := hD0.self (sz := s.heap.size)
  have hK := hkn.1
  have hAO := hkn.2.2
  generalize hAe : va_A [(h0, .inr (11, [.ref tp, .ref rd, .ref se, .ref ba, .ref of, .ref pl, .ref sr, .ref sc, .int 0])), (ba, .inl (E.2 4, 6, .inr (.inr (.inr (.inr fb))))), (bo, .inr (0, [.ref sp, .ref pa, .int 0, .ref ru, .ref co, .ref tr]))] s.heap.size = A at hD hst ⊢
  have hA : ∀ q : Nat, s.heap.size ≤ q → A q := fun q h => by rw [← hAe]; exact Or.inr h
  have hS : va_S A s.heap s.heap [] := va_S.rf
  have hP : va_P E.1 vwCl [(h0, .inr (11, [.ref tp, .ref rd, .ref se, .ref ba, .ref of, .ref pl, .ref sr, .ref sc, .int 0])), (ba, .inl (E.2 4, 6, .inr (.inr (.inr (.inr fb))))), (bo, .inr (0, [.ref sp, .ref pa, .int 0, .ref ru, .ref co, .ref tr]))] s.heap := hP
  have hl := lv_entry ([.ref h0, .int b, .int litres]) (n := 4) (Nat.le_of_ble_eq_true rfl)
  rw [lg_entry_eq]
  generalize (lg_sl ([.ref h0, .int b, .int litres]) ++ List.replicate (4 - (lg_sl ([.ref h0, .int b, .int litres])).length) Slot.unset).toArray = ls at hl ⊢
  have hl : lv_has ls 4 [(0, .ref h0), (1, .int b), (2, .int litres)] := hl
  have fl34 := hts (.fieldLink RX11 34 "BoatsHome" "boats" "[LBoatsHome$Boat;") (by decide +kernel)
  have fl102 := hts (.fieldLink RX11 102 "BoatsHome$Boat" "litres" "I") (by decide +kernel)
  have inX0 : ∀ w ∈ u_ws RX0 TX0 6, w ∈ wsX11_water := by decide +kernel
  have inX11 : ∀ w ∈ u_ws RX11 TX11 9, w ∈ wsX11_water := by decide +kernel
  refine lv_iload_n hx hb dX11_water_0 rfl (lv_at hl 1 rfl) ?_
  refine lv_bipush (v := 6) hx hb dX11_water_1 (by decide) ?_
  have hPc := hP.sub (ws' := []) [] rfl
  have hDc := hD.sub (ws' := []) [] (by decide) rfl
  have hFc := va_free (wc := []) hD hS hA [] rfl
  refine va_calli (va_runS (As := [.int b, .int 6]) (rest := []) ⟨hx, hb, hml, hown, hts⟩ (c_X11_below l E b 6 5 s.heap.size (lt_le (by decide))) (va_cwS 2 hts gX11_water_X11_below rfl rfl rfl (by decide +kernel) ⟨Nat.le_of_ble_eq_true rfl, Nat.le_of_ble_eq_true rfl⟩) ⟨pcW_blind, (pcW_pre hPc hkn hDc hst hS hFc)⟩ rfl rfl hl.1 rfl (lv_room (Nat.le_of_ble_eq_true rfl)) dX11_water_3 ⟨Nat.le_of_ble_eq_true rfl, Nat.le_of_ble_eq_true rfl⟩) hS (fun q _ h => hFc q h) hFc (fun r1 u t H1 locs ht hvm hw2 hB hz1 hk1 hS => ?_)
  obtain ⟨hP1, hD1⟩ := hB
  rw [ht] at hP1
  try dsimp only at hw2
  obtain ⟨hP, hD⟩ := va_join (wr := [(h0, .inr (11, [.ref tp, .ref rd, .ref se, .ref ba, .ref of, .ref pl, .ref sr, .ref sc, .int 0])), (ba, .inl (E.2 4, 6, .inr (.inr (.inr (.inr fb))))), (bo, .inr (0, [.ref sp, .ref pa, .int 0, .ref ru, .ref co, .ref tr]))]) (w1 := []) hP hD [] [0, 1, 2] rfl rfl (by decide) (by decide) hk1 hFc hP1 hD1
  generalize H1 = H at hP hS ⊢
  have hP : va_P E.1 vwCl [(h0, .inr (11, [.ref tp, .ref rd, .ref se, .ref ba, .ref of, .ref pl, .ref sr, .ref sc, .int 0])), (ba, .inl (E.2 4, 6, .inr (.inr (.inr (.inr fb))))), (bo, .inr (0, [.ref sp, .ref pa, .int 0, .ref ru, .ref co, .ref tr]))] H := hP
  have hD : va_D A [(h0, .inr (11, [.ref tp, .ref rd, .ref se, .ref ba, .ref of, .ref pl, .ref sr, .ref sc, .int 0])), (ba, .inl (E.2 4, 6, .inr (.inr (.inr (.inr fb))))), (bo, .inr (0, [.ref sp, .ref pa, .int 0, .ref ru, .ref co, .ref tr]))] := hD
  refine lv_if_eq (tgt := 20) hx hb dX11_water_6 (by decide) (fun c3 => ?_) (fun c3 => ?_)
  · have b4 : inR b 0 5 = false := bz hw2 c3
    refine lv_bipush (v := (-2)) hx hb dX11_water_20 (by decide) ?_
    have hP9 := hP.sub (ws' := []) [] rfl
    have hD9 := hD.sub (ws' := []) [] (by decide) rfl
    exact W.iret (v := (-2)) hx hb hr (fun t ht hW => ⟨⟨(-2), (), rfl, (by first | (rw [b4]; done) | (rw [b4]; rfl)), by rw [ht]; exact hP9, hD9⟩, hS.F ht⟩) hS.2.2 dX11_water_22
  · have b5 : inR b 0 5 = true := bn hw2 c3
    refine lv_iload_n hx hb dX11_water_9 rfl (lv_at hl 2 rfl) ?_
    refine lv_iconst (v := 0) hx hb dX11_water_10 (by decide) ?_
    refine lv_sipush (v := 10000) hx hb dX11_water_11 (by decide) ?_
    have hPc := hP.sub (ws' := []) [] rfl
    have hDc := hD.sub (ws' := []) [] (by decide) rfl
    have hFc := va_free (wc := []) hD hS hA [] rfl
    refine va_calli (va_runS (As := [.int litres, .int 0, .int 10000]) (rest := []) ⟨hx, hb, hml, hown, hts⟩ (c_X11_within l E litres 0 10000 H.size ) (va_cwS 3 hts gX11_water_X11_within rfl rfl rfl (by decide +kernel) ⟨Nat.le_of_ble_eq_true rfl, Nat.le_of_ble_eq_true rfl⟩) ⟨pcW_blind, (pcW_pre hPc hkn hDc hst hS hFc)⟩ rfl rfl hl.1 rfl (lv_room (Nat.le_of_ble_eq_true rfl)) dX11_water_14 ⟨Nat.le_of_ble_eq_true rfl, Nat.le_of_ble_eq_true rfl⟩) hS (fun q _ h => hFc q h) hFc (fun r6 u t H1 locs ht hvm hw7 hB hz1 hk1 hS => ?_)
    obtain ⟨hP1, hD1⟩ := hB
    rw [ht] at hP1
    try dsimp only at hw7
    obtain ⟨hP, hD⟩ := va_join (wr := [(h0, .inr (11, [.ref tp, .ref rd, .ref se, .ref ba, .ref of, .ref pl, .ref sr, .ref sc, .int 0])), (ba, .inl (E.2 4, 6, .inr (.inr (.inr (.inr fb))))), (bo, .inr (0, [.ref sp, .ref pa, .int 0, .ref ru, .ref co, .ref tr]))]) (w1 := []) hP hD [] [0, 1, 2] rfl rfl (by decide) (by decide) hk1 hFc hP1 hD1
    generalize H1 = H at hP hS ⊢
    have hP : va_P E.1 vwCl [(h0, .inr (11, [.ref tp, .ref rd, .ref se, .ref ba, .ref of, .ref pl, .ref sr, .ref sc, .int 0])), (ba, .inl (E.2 4, 6, .inr (.inr (.inr (.inr fb))))), (bo, .inr (0, [.ref sp, .ref pa, .int 0, .ref ru, .ref co, .ref tr]))] H := hP
    have hD : va_D A [(h0, .inr (11, [.ref tp, .ref rd, .ref se, .ref ba, .ref of, .ref pl, .ref sr, .ref sc, .int 0])), (ba, .inl (E.2 4, 6, .inr (.inr (.inr (.inr fb))))), (bo, .inr (0, [.ref sp, .ref pa, .int 0, .ref ru, .ref co, .ref tr]))] := hD
    refine lv_if_ne (tgt := 23) hx hb dX11_water_17 (by decide) (fun c8 => ?_) (fun c8 => ?_)
    · have b9 : inR litres 0 10000 = true := bn hw7 c8
      refine lv_aload_n hx hb dX11_water_23 rfl (lv_at hl 0 rfl) ?_
      refine va_get (D := E.1) (ci := 11) (v := .ref ba) (C := RX11) (T := TX11) (N := 9) hx hb hts inX11 hown hK hP 0 rfl rfl 3 (by decide) fl34 (fun _ h9 => h9) rfl dX11_water_24 ?_
      refine lv_iload_n hx hb dX11_water_27 rfl (lv_at hl 1 rfl) ?_
      have hi10 : vp_in b 6 := inR_in (by decide) b5
      refine va_aldq hx hb hK hP 1 4 rfl rfl hi10 dX11_water_28 ?_
      rw [show va_rf (fb b.toNatClampNeg) = .ref bo from by rw [hfb b5]; rfl]
      refine va_get (D := E.1) (ci := 0) (v := .int 0) (C := RX0) (T := TX0) (N := 6) hx hb hts inX0 hown hK hP 2 rfl rfl 2 (by decide) fl102 (fun _ h9 => h9) rfl dX11_water_29 ?_
      refine lv_istore_n (lv' := [(3, .int 0), (0, .ref h0), (1, .int b), (2, .int litres)]) hx hb dX11_water_32 rfl hl (by decide) rfl (fun ls hl => ?_)
      refine lv_aload_n hx hb dX11_water_33 rfl (lv_at hl 1 rfl) ?_
      refine va_get (D := E.1) (ci := 11) (v := .ref ba) (C := RX11) (T := TX11) (N := 9) hx hb hts inX11 hown hK hP 0 rfl rfl 3 (by decide) fl34 (fun _ h9 => h9) rfl dX11_water_34 ?_
      refine lv_iload_n hx hb dX11_water_37 rfl (lv_at hl 2 rfl) ?_
      refine va_aldq hx hb hK hP 1 4 rfl rfl hi10 dX11_water_38 ?_
      rw [show va_rf (fb b.toNatClampNeg) = .ref bo from by rw [hfb b5]; rfl]
      refine lv_iload_n hx hb dX11_water_39 rfl (lv_at hl 3 rfl) ?_
      refine va_put (D := E.1) (ci := 0) (v := .int litres) (ty := .int) (C := RX0) (T := TX0) (N := 6) hx hb hts inX0 tyX0 tyX0_ok nmX0 hown hK hP hD hS 2 rfl rfl 2 (by decide) fl102 (fun _ h9 => h9) rfl (by decide +kernel) rfl rfl (Nat.le_of_ble_eq_true rfl) dX11_water_40 (fun H locs hP hD hS => ?_)
      have hP : va_P E.1 vwCl [(h0, .inr (11, [.ref tp, .ref rd, .ref se, .ref ba, .ref of, .ref pl, .ref sr, .ref sc, .int 0])), (ba, .inl (E.2 4, 6, .inr (.inr (.inr (.inr fb))))), (bo, .inr (0, [.ref sp, .ref pa, .int litres, .ref ru, .ref co, .ref tr]))] H := hP
      have hD : va_D A [(h0, .inr (11, [.ref tp, .ref rd, .ref se, .ref ba, .ref of, .ref pl, .ref sr, .ref sc, .int 0])), (ba, .inl (E.2 4, 6, .inr (.inr (.inr (.inr fb))))), (bo, .inr (0, [.ref sp, .ref pa, .int litres, .ref ru, .ref co, .ref tr]))] := hD
      refine lv_iload_n hx hb dX11_water_43 rfl (lv_at hl 0 rfl) ?_
      have hP9 := hP.sub (ws' := []) [] rfl
      have hD9 := hD.sub (ws' := []) [] (by decide) rfl
      exact W.iret (v := 0) hx hb hr (fun t ht hW => ⟨⟨0, (), rfl, (by first | (rw [b5, b9]; done) | (rw [b5, b9]; rfl)), by rw [ht]; exact hP9, hD9⟩, hS.F ht⟩) hS.2.2 dX11_water_44
    · have b11 : inR litres 0 10000 = false := bz hw7 c8
      refine lv_bipush (v := (-2)) hx hb dX11_water_20 (by decide) ?_
      have hP9 := hP.sub (ws' := []) [] rfl
      have hD9 := hD.sub (ws' := []) [] (by decide) rfl
      exact W.iret (v := (-2)) hx hb hr (fun t ht hW => ⟨⟨(-2), (), rfl, (by first | (rw [b5, b11]; done) | (rw [b5, b11]; rfl)), by rw [ht]; exact hP9, hD9⟩, hS.F ht⟩) hS.2.2 dX11_water_22
set_option maxHeartbeats 4000000 in
set_option maxRecDepth 100000 in
theorem c_X11_lasts (l : Launch) (E : vE) (h0 : Nat) (tp : Nat) (rd : Nat) (se : Nat) (ba : Nat) (of : Nat) (pl : Nat) (sr : Nat) (sc : Nat) (bo : Nat) (sp : Nat) (pa : Nat) (ru : Nat) (co : Nat) (tr : Nat) (fb : Nat → Option Nat) (fp : Nat → Int32) (b : Int32) (part : Int32) (watches : Int32) (sz : Nat) (hfb : inR b 0 5 = true → fb b.toNatClampNeg = some bo) (hfp : ∀ k, k < 4 → fp k = 10000) : Met l yX11_lasts wsX11_lasts ({ frames := 2, cells := 0, slots := 0, locals := 40 }) (pcW E [.ref h0, .int b, .int part, .int watches] sz [(h0, .inr (11, [.ref tp, .ref rd, .ref se, .ref ba, .ref of, .ref pl, .ref sr, .ref sc, .int 0])), (ba, .inl (E.2 4, 6, .inr (.inr (.inr (.inr fb))))), (bo, .inr (0, [.ref sp, .ref pa, .int 0, .ref ru, .ref co, .ref tr])), (pa, .inl (E.2 0, 4, .inl fp))]) (va_Qi (fun (r : Int32) (_ : Unit) => r = cond (inR b 0 5 && inR part 0 3 && inR watches 0 10000) 10000 (-2)) (fun (_ : Unit) (t : State) => wB E (va_A [(h0, .inr (11, [.ref tp, .ref rd, .ref se, .ref ba, .ref of, .ref pl, .ref sr, .ref sc, .int 0])), (ba, .inl (E.2 4, 6, .inr (.inr (.inr (.inr fb))))), (bo, .inr (0, [.ref sp, .ref pa, .int 0, .ref ru, .ref co, .ref tr])), (pa, .inl (E.2 0, 4, .inl fp))] sz) [] t) (va_A [(h0, .inr (11, [.ref tp, .ref rd, .ref se, .ref ba, .ref of, .ref pl, .ref sr, .ref sc, .int 0])), (ba, .inl (E.2 4, 6, .inr (.inr (.inr (.inr fb))))), (bo, .inr (0, [.ref sp, .ref pa, .int 0, .ref ru, .ref co, .ref tr])), (pa, .inl (E.2 0, 4, .inl fp))] sz)) 0 0 (va_A [(h0, .inr (11, [.ref tp, .ref rd, .ref se, .ref ba, .ref of, .ref pl, .ref sr, .ref sc, .int 0])), (ba, .inl (E.2 4, 6, .inr (.inr (.inr (.inr fb))))), (bo, .inr (0, [.ref sp, .ref pa, .int 0, .ref ru, .ref co, .ref tr])), (pa, .inl (E.2 0, 4, .inl fp))] sz) := by
  refine Met.ofW (cc := cX11_lasts) (maxL := 5) (ret := (some .int)) (by decide) rfl ?_
  intro p e s m args below meth c s₁ B hml hv
  obtain ⟨rfl, hsz, hP, hkn, hD0, hst⟩ := hv
  have hx := B.exec
  have hb := B.bytes
  have hr := B.returns
  have hts := atoms_spec (ws := wsX11_lasts) B.pre
  have hown : s.vm.findClass RX11 = some m.cls := findClass_of_methodNamed B.named
  have hlocks := B.notSynchronized
  subst hsz
  have hD := hD0.self (sz := s.heap.size)
  have hK := hkn.1
  have hAO := hkn.2.2
  generalize hAe : va_A [(h0, .inr (11, [.ref tp, .ref rd, .ref se, .ref ba, .ref of, .ref pl, .ref sr, .ref sc, .int 0])), (ba, .inl (E.2 4, 6, .inr (.inr (.inr (.inr fb))))), (bo, .inr (0, [.ref sp, .ref pa, .int 0, .ref ru, .ref co, .ref tr])), (pa, .inl (E.2 0, 4, .inl fp))] s.heap.size = A at hD hst ⊢
  have hA : ∀ q : Nat, s.heap.size ≤ q → A q := fun q h => by rw [← hAe]; exact Or.inr h
  have hS : va_S A s.heap s.heap [] := va_S.rf
  have hP : va_P E.1 vwCl [(h0, .inr (11, [.ref tp, .ref rd, .ref se, .ref ba, .ref of, .ref pl, .ref sr, .ref sc, .int 0])), (ba, .inl (E.2 4, 6, .inr (.inr (.inr (.inr fb))))), (bo, .inr (0, [.ref sp, .ref pa, .int 0, .ref ru, .ref co, .ref tr])), (pa, .inl (E.2 0, 4, .inl fp))] s.heap := hP
  have hl := lv_entry ([.ref h0, .int b, .int part, .int watches]) (n := 5) (Nat.le_of_ble_eq_true rfl)
  rw [lg_entry_eq]
  generalize (lg_sl ([.ref h0, .int b, .int part, .int watches]) ++ List.replicate (5 - (lg_sl ([.ref h0, .int b, .int part, .int watches])).length) Slot.unset).toArray = ls at hl ⊢
  have hl : lv_has ls 5 [(0, .ref h0), (1, .int b), (2, .int part), (3, .int watches)] := hl
  have fl34 := hts (.fieldLink RX11 34 "BoatsHome" "boats" "[LBoatsHome$Boat;") (by decide +kernel)
  have fl105 := hts (.fieldLink RX11 105 "BoatsHome$Boat" "parts" "[I") (by decide +kernel)
  have inX0 : ∀ w ∈ u_ws RX0 TX0 6, w ∈ wsX11_lasts := by decide +kernel
  have inX11 : ∀ w ∈ u_ws RX11 TX11 9, w ∈ wsX11_lasts := by decide +kernel
  refine lv_iload_n hx hb dX11_lasts_0 rfl (lv_at hl 1 rfl) ?_
  refine lv_bipush (v := 6) hx hb dX11_lasts_1 (by decide) ?_
  have hPc := hP.sub (ws' := []) [] rfl
  have hDc := hD.sub (ws' := []) [] (by decide) rfl
  have hFc := va_free (wc := []) hD hS hA [] rfl
  refine va_calli (va_runS (As := [.int b, .int 6]) (rest := []) ⟨hx, hb, hml, hown, hts⟩ (c_X11_below l E b 6 5 s.heap.size (lt_le (by decide))) (va_cwS 2 hts gX11_lasts_X11_below rfl rfl rfl (by decide +kernel) ⟨Nat.le_of_ble_eq_true rfl, Nat.le_of_ble_eq_true rfl⟩) ⟨pcW_blind, (pcW_pre hPc hkn hDc hst hS hFc)⟩ rfl rfl hl.1 rfl (lv_room (Nat.le_of_ble_eq_true rfl)) dX11_lasts_3 ⟨Nat.le_of_ble_eq_true rfl, Nat.le_of_ble_eq_true rfl⟩) hS (fun q _ h => hFc q h) hFc (fun r1 u t H1 locs ht hvm hw2 hB hz1 hk1 hS => ?_)
  obtain ⟨hP1, hD1⟩ := hB
  rw [ht] at hP1
  try dsimp only at hw2
  obtain ⟨hP, hD⟩ := va_join (wr := [(h0, .inr (11, [.ref tp, .ref rd, .ref se, .ref ba, .ref of, .ref pl, .ref sr, .ref sc, .int 0])), (ba, .inl (E.2 4, 6, .inr (.inr (.inr (.inr fb))))), (bo, .inr (0, [.ref sp, .ref pa, .int 0, .ref ru, .ref co, .ref tr])), (pa, .inl (E.2 0, 4, .inl fp))]) (w1 := []) hP hD [] [0, 1, 2, 3] rfl rfl (by decide) (by decide) hk1 hFc hP1 hD1
  generalize H1 = H at hP hS ⊢
  have hP : va_P E.1 vwCl [(h0, .inr (11, [.ref tp, .ref rd, .ref se, .ref ba, .ref of, .ref pl, .ref sr, .ref sc, .int 0])), (ba, .inl (E.2 4, 6, .inr (.inr (.inr (.inr fb))))), (bo, .inr (0, [.ref sp, .ref pa, .int 0, .ref ru, .ref co, .ref tr])), (pa, .inl (E.2 0, 4, .inl fp))] H := hP
  have hD : va_D A [(h0, .inr (11, [.ref tp, .ref rd, .ref se, .ref ba, .ref of, .ref pl, .ref sr, .ref sc, .int 0])), (ba, .inl (E.2 4, 6, .inr (.inr (.inr (.inr fb))))), (bo, .inr (0, [.ref sp, .ref pa, .int 0, .ref ru, .ref co, .ref tr])), (pa, .inl (E.2 0, 4, .inl fp))] := hD
  refine lv_if_eq (tgt := 28) hx hb dX11_lasts_6 (by decide) (fun c3 => ?_) (fun c3 => ?_)
  · have b4 : inR b 0 5 = false := bz hw2 c3
    refine lv_bipush (v := (-2)) hx hb dX11_lasts_28 (by decide) ?_
    have hP9 := hP.sub (ws' := []) [] rfl
    have hD9 := hD.sub (ws' := []) [] (by decide) rfl
    exact W.iret (v := (-2)) hx hb hr (fun t ht hW => ⟨⟨(-2), (), rfl, (by first | (rw [b4]; done) | (rw [b4]; rfl)), by rw [ht]; exact hP9, hD9⟩, hS.F ht⟩) hS.2.2 dX11_lasts_30
  · have b5 : inR b 0 5 = true := bn hw2 c3
    refine lv_iload_n hx hb dX11_lasts_9 rfl (lv_at hl 2 rfl) ?_
    refine lv_iconst (v := 4) hx hb dX11_lasts_10 (by decide) ?_
    have hPc := hP.sub (ws' := []) [] rfl
    have hDc := hD.sub (ws' := []) [] (by decide) rfl
    have hFc := va_free (wc := []) hD hS hA [] rfl
    refine va_calli (va_runS (As := [.int part, .int 4]) (rest := []) ⟨hx, hb, hml, hown, hts⟩ (c_X11_below l E part 4 3 H.size (lt_le (by decide))) (va_cwS 2 hts gX11_lasts_X11_below rfl rfl rfl (by decide +kernel) ⟨Nat.le_of_ble_eq_true rfl, Nat.le_of_ble_eq_true rfl⟩) ⟨pcW_blind, (pcW_pre hPc hkn hDc hst hS hFc)⟩ rfl rfl hl.1 rfl (lv_room (Nat.le_of_ble_eq_true rfl)) dX11_lasts_11 ⟨Nat.le_of_ble_eq_true rfl, Nat.le_of_ble_eq_true rfl⟩) hS (fun q _ h => hFc q h) hFc (fun r6 u t H1 locs ht hvm hw7 hB hz1 hk1 hS => ?_)
    obtain ⟨hP1, hD1⟩ := hB
    rw [ht] at hP1
    try dsimp only at hw7
    obtain ⟨hP, hD⟩ := va_join (wr := [(h0, .inr (11, [.ref tp, .ref rd, .ref se, .ref ba, .ref of, .ref pl, .ref sr, .ref sc, .int 0])), (ba, .inl (E.2 4, 6, .inr (.inr (.inr (.inr fb))))), (bo, .inr (0, [.ref sp, .ref pa, .int 0, .ref ru, .ref co, .ref tr])), (pa, .inl (E.2 0, 4, .inl fp))]) (w1 := []) hP hD [] [0, 1, 2, 3] rfl rfl (by decide) (by decide) hk1 hFc hP1 hD1
    generalize H1 = H at hP hS ⊢
    have hP : va_P E.1 vwCl [(h0, .inr (11, [.ref tp, .ref rd, .ref se, .ref ba, .ref of, .ref pl, .ref sr, .ref sc, .int 0])), (ba, .inl (E.2 4, 6, .inr (.inr (.inr (.inr fb))))), (bo, .inr (0, [.ref sp, .ref pa, .int 0, .ref ru, .ref co, .ref tr])), (pa, .inl (E.2 0, 4, .inl fp))] H := hP
    have hD : va_D A [(h0, .inr (11, [.ref tp, .ref rd, .ref se, .ref ba, .ref of, .ref pl, .ref sr, .ref sc, .int 0])), (ba, .inl (E.2 4, 6, .inr (.inr (.inr (.inr fb))))), (bo, .inr (0, [.ref sp, .ref pa, .int 0, .ref ru, .ref co, .ref tr])), (pa, .inl (E.2 0, 4, .inl fp))] := hD
    refine lv_if_eq (tgt := 28) hx hb dX11_lasts_14 (by decide) (fun c8 => ?_) (fun c8 => ?_)
    · have b9 : inR part 0 3 = false := bz hw7 c8
      refine lv_bipush (v := (-2)) hx hb dX11_lasts_28 (by decide) ?_
      have hP9 := hP.sub (ws' := []) [] rfl
      have hD9 := hD.sub (ws' := []) [] (by decide) rfl
      exact W.iret (v := (-2)) hx hb hr (fun t ht hW => ⟨⟨(-2), (), rfl, (by first | (rw [b5, b9]; done) | (rw [b5, b9]; rfl)), by rw [ht]; exact hP9, hD9⟩, hS.F ht⟩) hS.2.2 dX11_lasts_30
    · have b10 : inR part 0 3 = true := bn hw7 c8
      refine lv_iload_n hx hb dX11_lasts_17 rfl (lv_at hl 3 rfl) ?_
      refine lv_iconst (v := 0) hx hb dX11_lasts_18 (by decide) ?_
      refine lv_sipush (v := 10000) hx hb dX11_lasts_19 (by decide) ?_
      have hPc := hP.sub (ws' := []) [] rfl
      have hDc := hD.sub (ws' := []) [] (by decide) rfl
      have hFc := va_free (wc := []) hD hS hA [] rfl
      refine va_calli (va_runS (As := [.int watches, .int 0, .int 10000]) (rest := []) ⟨hx, hb, hml, hown, hts⟩ (c_X11_within l E watches 0 10000 H.size ) (va_cwS 3 hts gX11_lasts_X11_within rfl rfl rfl (by decide +kernel) ⟨Nat.le_of_ble_eq_true rfl, Nat.le_of_ble_eq_true rfl⟩) ⟨pcW_blind, (pcW_pre hPc hkn hDc hst hS hFc)⟩ rfl rfl hl.1 rfl (lv_room (Nat.le_of_ble_eq_true rfl)) dX11_lasts_22 ⟨Nat.le_of_ble_eq_true rfl, Nat.le_of_ble_eq_true rfl⟩) hS (fun q _ h => hFc q h) hFc (fun r11 u t H1 locs ht hvm hw12 hB hz1 hk1 hS => ?_)
      obtain ⟨hP1, hD1⟩ := hB
      rw [ht] at hP1
      try dsimp only at hw12
      obtain ⟨hP, hD⟩ := va_join (wr := [(h0, .inr (11, [.ref tp, .ref rd, .ref se, .ref ba, .ref of, .ref pl, .ref sr, .ref sc, .int 0])), (ba, .inl (E.2 4, 6, .inr (.inr (.inr (.inr fb))))), (bo, .inr (0, [.ref sp, .ref pa, .int 0, .ref ru, .ref co, .ref tr])), (pa, .inl (E.2 0, 4, .inl fp))]) (w1 := []) hP hD [] [0, 1, 2, 3] rfl rfl (by decide) (by decide) hk1 hFc hP1 hD1
      generalize H1 = H at hP hS ⊢
      have hP : va_P E.1 vwCl [(h0, .inr (11, [.ref tp, .ref rd, .ref se, .ref ba, .ref of, .ref pl, .ref sr, .ref sc, .int 0])), (ba, .inl (E.2 4, 6, .inr (.inr (.inr (.inr fb))))), (bo, .inr (0, [.ref sp, .ref pa, .int 0, .ref ru, .ref co, .ref tr])), (pa, .inl (E.2 0, 4, .inl fp))] H := hP
      have hD : va_D A [(h0, .inr (11, [.ref tp, .ref rd, .ref se, .ref ba, .ref of, .ref pl, .ref sr, .ref sc, .int 0])), (ba, .inl (E.2 4, 6, .inr (.inr (.inr (.inr fb))))), (bo, .inr (0, [.ref sp, .ref pa, .int 0, .ref ru, .ref co, .ref tr])), (pa, .inl (E.2 0, 4, .inl fp))] := hD
      refine lv_if_ne (tgt := 31) hx hb dX11_lasts_25 (by decide) (fun c13 => ?_) (fun c13 => ?_)
      · have b14 : inR watches 0 10000 = true := bn hw12 c13
        refine lv_aload_n hx hb dX11_lasts_31 rfl (lv_at hl 0 rfl) ?_
        refine va_get (D := E.1) (ci := 11) (v := .ref ba) (C := RX11) (T := TX11) (N := 9) hx hb hts inX11 hown hK hP 0 rfl rfl 3 (by decide) fl34 (fun _ h9 => h9) rfl dX11_lasts_32 ?_
        refine lv_iload_n hx hb dX11_lasts_35 rfl (lv_at hl 1 rfl) ?_
        have hi15 : vp_in b 6 := inR_in (by decide) b5
        refine va_aldq hx hb hK hP 1 4 rfl rfl hi15 dX11_lasts_36 ?_
        rw [show va_rf (fb b.toNatClampNeg) = .ref bo from by rw [hfb b5]; rfl]
        refine va_get (D := E.1) (ci := 0) (v := .ref pa) (C := RX0) (T := TX0) (N := 6) hx hb hts inX0 hown hK hP 2 rfl rfl 1 (by decide) fl105 (fun _ h9 => h9) rfl dX11_lasts_37 ?_
        refine lv_iload_n hx hb dX11_lasts_40 rfl (lv_at hl 2 rfl) ?_
        have hi16 : vp_in part 4 := inR_in (by decide) b10
        refine va_iald hx hb hK hP 3 0 rfl rfl hi16 dX11_lasts_41 ?_
        refine lv_topi (fun x17 ex17 => ?_)
        obtain rfl : x17 = 10000 := ex17.trans (hfp _ (Nat.not_le.mp fun q => hi16 (Or.inr q)))
        refine lv_istore (lv' := [(4, .int 10000), (0, .ref h0), (1, .int b), (2, .int part), (3, .int watches)]) hx hb dX11_lasts_42 hl (by decide) rfl (fun ls hl => ?_)
        refine lv_aload_n hx hb dX11_lasts_44 rfl (lv_at hl 1 rfl) ?_
        refine va_get (D := E.1) (ci := 11) (v := .ref ba) (C := RX11) (T := TX11) (N := 9) hx hb hts inX11 hown hK hP 0 rfl rfl 3 (by decide) fl34 (fun _ h9 => h9) rfl dX11_lasts_45 ?_
        refine lv_iload_n hx hb dX11_lasts_48 rfl (lv_at hl 2 rfl) ?_
        refine va_aldq hx hb hK hP 1 4 rfl rfl hi15 dX11_lasts_49 ?_
        rw [show va_rf (fb b.toNatClampNeg) = .ref bo from by rw [hfb b5]; rfl]
        refine va_get (D := E.1) (ci := 0) (v := .ref pa) (C := RX0) (T := TX0) (N := 6) hx hb hts inX0 hown hK hP 2 rfl rfl 1 (by decide) fl105 (fun _ h9 => h9) rfl dX11_lasts_50 ?_
        refine lv_iload_n hx hb dX11_lasts_53 rfl (lv_at hl 3 rfl) ?_
        refine lv_iload_n hx hb dX11_lasts_54 rfl (lv_at hl 4 rfl) ?_
        refine va_iast hx hb hK hP hD hS 3 0 rfl rfl hi16 dX11_lasts_55 (fun H locs hP hD hS => ?_)
        have hP : va_P E.1 vwCl [(h0, .inr (11, [.ref tp, .ref rd, .ref se, .ref ba, .ref of, .ref pl, .ref sr, .ref sc, .int 0])), (ba, .inl (E.2 4, 6, .inr (.inr (.inr (.inr fb))))), (bo, .inr (0, [.ref sp, .ref pa, .int 0, .ref ru, .ref co, .ref tr])), (pa, .inl (E.2 0, 4, .inl (upd fp part.toNatClampNeg watches)))] H := hP
        have hD : va_D A [(h0, .inr (11, [.ref tp, .ref rd, .ref se, .ref ba, .ref of, .ref pl, .ref sr, .ref sc, .int 0])), (ba, .inl (E.2 4, 6, .inr (.inr (.inr (.inr fb))))), (bo, .inr (0, [.ref sp, .ref pa, .int 0, .ref ru, .ref co, .ref tr])), (pa, .inl (E.2 0, 4, .inl (upd fp part.toNatClampNeg watches)))] := hD
        obtain ⟨f18, ef18⟩ : ∃ g : Nat → Int32, g = upd fp part.toNatClampNeg watches := ⟨_, rfl⟩
        rw [← ef18] at hP hD
        refine lv_iload hx hb dX11_lasts_56 (lv_at hl 0 rfl) ?_
        refine lv_iconst (v := 0) hx hb dX11_lasts_58 (by decide) ?_
        refine va_mmax hx hb (by rw [hml]; exact hl.1.symm) hown (hts (.methodLink RX11 108 Lib.Math.max.name) (by decide +kernel)) (hts (.static Lib.Math.max.name) (by decide +kernel)) (hts (.initialized "java/lang/Math") (by decide +kernel)) (hts (.code Lib.Math.max.name Lib.Math.max.code 2 (some .int)) (by decide +kernel)) (Nat.le_of_ble_eq_true rfl) (Nat.le_of_ble_eq_true rfl) (Nat.le_of_ble_eq_true rfl) (Nat.le_of_ble_eq_true rfl) dX11_lasts_59 ?_
        refine lv_topi (fun x19 ex19 => ?_)
        obtain rfl : x19 = 10000 := ex19.trans (by decide +kernel)
        have hP9 := hP.sub (ws' := []) [] rfl
        have hD9 := hD.sub (ws' := []) [] (by decide) rfl
        exact W.iret (v := 10000) hx hb hr (fun t ht hW => ⟨⟨10000, (), rfl, (by first | (rw [b5, b10, b14]; done) | (rw [b5, b10, b14]; rfl)), by rw [ht]; exact hP9, hD9⟩, hS.F ht⟩) hS.2.2 dX11_lasts_62
      · have b20 : inR watches 0 10000 = false := bz hw12 c13
        refine lv_bipush (v := (-2)) hx hb dX11_lasts_28 (by decide) ?_
        have hP9 := hP.sub (ws' := []) [] rfl
        have hD9 := hD.sub (ws' := []) [] (by decide) rfl
        exact W.iret (v := (-2)) hx hb hr (fun t ht hW => ⟨⟨(-2), (), rfl, (by first | (rw [b5, b10, b20]; done) | (rw [b5, b10, b20]; rfl)), by rw [ht]; exact hP9, hD9⟩, hS.F ht⟩) hS.2.2 dX11_lasts_30
set_option maxHeartbeats 4000000 in
set_option maxRecDepth 100000 in
theorem c_X11_fault (l : Launch) (E : vE) (h0 : Nat) (tp : Nat) (rd : Nat) (se : Nat) (ba : Nat) (of : Nat) (pl : Nat) (sr : Nat) (sc : Nat) (tk : Nat) (what : Int32) (sz : Nat) : Met l yX11_fault wsX11_fault ({ frames := 0, cells := 0, slots := 0, locals := 0 }) (pcW E [.ref h0, .int what] sz [(h0, .inr (11, [.ref tp, .ref rd, .ref se, .ref ba, .ref of, .ref pl, .ref sr, .ref sc, .int 0])), (rd, .inr (6, [.ref tk, .int 0, .int (-1)]))]) (va_Qi (fun (r : Int32) (_ : Unit) => r = if what = 0 then 0 else -1) (fun (_ : Unit) (t : State) => wB E (va_A [(h0, .inr (11, [.ref tp, .ref rd, .ref se, .ref ba, .ref of, .ref pl, .ref sr, .ref sc, .int 0])), (rd, .inr (6, [.ref tk, .int 0, .int (-1)]))] sz) [] t) (va_A [(h0, .inr (11, [.ref tp, .ref rd, .ref se, .ref ba, .ref of, .ref pl, .ref sr, .ref sc, .int 0])), (rd, .inr (6, [.ref tk, .int 0, .int (-1)]))] sz)) 0 0 (va_A [(h0, .inr (11, [.ref tp, .ref rd, .ref se, .ref ba, .ref of, .ref pl, .ref sr, .ref sc, .int 0])), (rd, .inr (6, [.ref tk, .int 0, .int (-1)]))] sz) := by
  refine Met.ofW (cc := cX11_fault) (maxL := 2) (ret := (some .int)) (by decide) rfl ?_
  intro p e s m args below meth c s₁ B hml hv
  obtain ⟨rfl, hsz, hP, hkn, hD0, hst⟩ := hv
  have hx := B.exec
  have hb := B.bytes
  have hr := B.returns
  have hts := atoms_spec (ws := wsX11_fault) B.pre
  have hown : s.vm.findClass RX11 = some m.cls := findClass_of_methodNamed B.named
  have hlocks := B.notSynchronized
  subst hsz
  have hD := hD0.self (sz := s.heap.size)
  have hK := hkn.1
  have hAO := hkn.2.2
  generalize hAe : va_A [(h0, .inr (11, [.ref tp, .ref rd, .ref se, .ref ba, .ref of, .ref pl, .ref sr, .ref sc, .int 0])), (rd, .inr (6, [.ref tk, .int 0, .int (-1)]))] s.heap.size = A at hD hst ⊢
  have hA : ∀ q : Nat, s.heap.size ≤ q → A q := fun q h => by rw [← hAe]; exact Or.inr h
  have hS : va_S A s.heap s.heap [] := va_S.rf
  have hP : va_P E.1 vwCl [(h0, .inr (11, [.ref tp, .ref rd, .ref se, .ref ba, .ref of, .ref pl, .ref sr, .ref sc, .int 0])), (rd, .inr (6, [.ref tk, .int 0, .int (-1)]))] s.heap := hP
  have hl := lv_entry ([.ref h0, .int what]) (n := 2) (Nat.le_of_ble_eq_true rfl)
  rw [lg_entry_eq]
  generalize (lg_sl ([.ref h0, .int what]) ++ List.replicate (2 - (lg_sl ([.ref h0, .int what])).length) Slot.unset).toArray = ls at hl ⊢
  have hl : lv_has ls 2 [(0, .ref h0), (1, .int what)] := hl
  have fl21 := hts (.fieldLink RX11 21 "BoatsHome" "reader" "LBoatsHome$Reader;") (by decide +kernel)
  have fl134 := hts (.fieldLink RX11 134 "BoatsHome$Reader" "faultKind" "I") (by decide +kernel)
  have fl137 := hts (.fieldLink RX11 137 "BoatsHome$Reader" "faultPlace" "I") (by decide +kernel)
  have inX11 : ∀ w ∈ u_ws RX11 TX11 9, w ∈ wsX11_fault := by decide +kernel
  have inX6 : ∀ w ∈ u_ws RX6 TX6 3, w ∈ wsX11_fault := by decide +kernel
  refine lv_iload_n hx hb dX11_fault_0 rfl (lv_at hl 1 rfl) ?_
  by_cases c1 : what = 0
  · refine lv_lookup (off := 27) (tgt := 28) hx hb dX11_fault_1 (by decide) (by rw [c1]; decide) (by decide) ?_
    refine lv_aload_n hx hb dX11_fault_28 rfl (lv_at hl 0 rfl) ?_
    refine va_get (D := E.1) (ci := 11) (v := .ref rd) (C := RX11) (T := TX11) (N := 9) hx hb hts inX11 hown hK hP 0 rfl rfl 1 (by decide) fl21 (fun _ h9 => h9) rfl dX11_fault_29 ?_
    refine va_get (D := E.1) (ci := 6) (v := .int 0) (C := RX6) (T := TX6) (N := 3) hx hb hts inX6 hown hK hP 1 rfl rfl 1 (by decide) fl134 (fun _ h9 => h9) rfl dX11_fault_32 ?_
    have hP9 := hP.sub (ws' := []) [] rfl
    have hD9 := hD.sub (ws' := []) [] (by decide) rfl
    exact W.iret (v := 0) hx hb hr (fun t ht hW => ⟨⟨0, (), rfl, (by rw [if_pos c1]), by rw [ht]; exact hP9, hD9⟩, hS.F ht⟩) hS.2.2 dX11_fault_35
  by_cases c2 : what = 1
  · refine lv_lookup (off := 35) (tgt := 36) hx hb dX11_fault_1 (by decide) (by rw [c2]; decide) (by decide) ?_
    refine lv_aload_n hx hb dX11_fault_36 rfl (lv_at hl 0 rfl) ?_
    refine va_get (D := E.1) (ci := 11) (v := .ref rd) (C := RX11) (T := TX11) (N := 9) hx hb hts inX11 hown hK hP 0 rfl rfl 1 (by decide) fl21 (fun _ h9 => h9) rfl dX11_fault_37 ?_
    refine va_get (D := E.1) (ci := 6) (v := .int (-1)) (C := RX6) (T := TX6) (N := 3) hx hb hts inX6 hown hK hP 1 rfl rfl 2 (by decide) fl137 (fun _ h9 => h9) rfl dX11_fault_40 ?_
    have hP9 := hP.sub (ws' := []) [] rfl
    have hD9 := hD.sub (ws' := []) [] (by decide) rfl
    exact W.iret (v := (-1)) hx hb hr (fun t ht hW => ⟨⟨(-1), (), rfl, (by rw [if_neg (by rw [c2]; decide)]), by rw [ht]; exact hP9, hD9⟩, hS.F ht⟩) hS.2.2 dX11_fault_43
  refine lv_lookup (off := 43) (tgt := 44) hx hb dX11_fault_1 (by decide) (by have g0 : ¬ (0 : Int) = what.toInt := fun h => c1 (Int32.toInt_inj.mp (h.symm.trans (by decide))); have g1 : ¬ (1 : Int) = what.toInt := fun h => c2 (Int32.toInt_inj.mp (h.symm.trans (by decide))); simp [Op.lookupswitch.offset, g0, g1]) (by decide) ?_
  refine lv_iconst (v := (-1)) hx hb dX11_fault_44 (by decide) ?_
  have hP9 := hP.sub (ws' := []) [] rfl
  have hD9 := hD.sub (ws' := []) [] (by decide) rfl
  exact W.iret (v := (-1)) hx hb hr (fun t ht hW => ⟨⟨(-1), (), rfl, (by rw [if_neg c1]), by rw [ht]; exact hP9, hD9⟩, hS.F ht⟩) hS.2.2 dX11_fault_45
set_option maxHeartbeats 4000000 in
set_option maxRecDepth 100000 in
theorem c_X1_holds (l : Launch) (E : vE) (h0 : Nat) (bx : Nat) (place : Int32) (day : Int32) (crew : Int32) (force : Int32) (sz : Nat) (hc : inR crew 0 9 = true) (hf : inR force 0 9 = true) : Met l yX1_holds wsX1_holds ({ frames := 0, cells := 0, slots := 0, locals := 0 }) (pcW E [.ref h0, .int place, .int day, .int crew, .int force] sz [(h0, .inr (1, [.ref bx, .int 0, .int 0, .int 9, .int 0]))]) (va_Qi (fun (r : Int32) (_ : Unit) => r = 1) (fun (_ : Unit) (t : State) => wB E (va_A [(h0, .inr (1, [.ref bx, .int 0, .int 0, .int 9, .int 0]))] sz) [] t) (va_A [(h0, .inr (1, [.ref bx, .int 0, .int 0, .int 9, .int 0]))] sz)) 0 0 (va_A [(h0, .inr (1, [.ref bx, .int 0, .int 0, .int 9, .int 0]))] sz) := by
  refine Met.ofW (cc := cX1_holds) (maxL := 6) (ret := (some .boolean)) (by decide) rfl ?_
  intro p e s m args below meth c s₁ B hml hv
  obtain ⟨rfl, hsz, hP, hkn, hD0, hst⟩ := hv
  have hx := B.exec
  have hb := B.bytes
  have hr := B.returns
  have hts := atoms_spec (ws := wsX1_holds) B.pre
  have hown : s.vm.findClass RX1 = some m.cls := findClass_of_methodNamed B.named
  have hlocks := B.notSynchronized
  subst hsz
  have hD := hD0.self (sz := s.heap.size)
  have hK := hkn.1
  have hAO := hkn.2.2
  generalize hAe : va_A [(h0, .inr (1, [.ref bx, .int 0, .int 0, .int 9, .int 0]))] s.heap.size = A at hD hst ⊢
  have hA : ∀ q : Nat, s.heap.size ≤ q → A q := fun q h => by rw [← hAe]; exact Or.inr h
  have hS : va_S A s.heap s.heap [] := va_S.rf
  have hP : va_P E.1 vwCl [(h0, .inr (1, [.ref bx, .int 0, .int 0, .int 9, .int 0]))] s.heap := hP
  have hl := lv_entry ([.ref h0, .int place, .int day, .int crew, .int force]) (n := 6) (Nat.le_of_ble_eq_true rfl)
  rw [lg_entry_eq]
  generalize (lg_sl ([.ref h0, .int place, .int day, .int crew, .int force]) ++ List.replicate (6 - (lg_sl ([.ref h0, .int place, .int day, .int crew, .int force])).length) Slot.unset).toArray = ls at hl ⊢
  have hl : lv_has ls 6 [(0, .ref h0), (1, .int place), (2, .int day), (3, .int crew), (4, .int force)] := hl
  have fl15 := hts (.fieldLink RX1 15 "BoatsHome$Cover" "boxCount" "I") (by decide +kernel)
  have fl19 := hts (.fieldLink RX1 19 "BoatsHome$Cover" "leastCrew" "I") (by decide +kernel)
  have fl22 := hts (.fieldLink RX1 22 "BoatsHome$Cover" "mostForce" "I") (by decide +kernel)
  have inX1 : ∀ w ∈ u_ws RX1 TX1 5, w ∈ wsX1_holds := by decide +kernel
  refine lv_iload_n hx hb dX1_holds_0 rfl (lv_at hl 3 rfl) ?_
  refine lv_aload_n hx hb dX1_holds_1 rfl (lv_at hl 0 rfl) ?_
  refine va_get (D := E.1) (ci := 1) (v := .int 0) (C := RX1) (T := TX1) (N := 5) hx hb hts inX1 hown hK hP 0 rfl rfl 2 (by decide) fl19 (fun _ h9 => h9) rfl dX1_holds_2 ?_
  refine lv_icmp_lt (tgt := 17) hx hb dX1_holds_5 (by decide) (fun c9 => absurd c9 (Int32.not_lt.mpr (inR_t.mp hc).1)) (fun c9 => ?_)
  refine lv_iload hx hb dX1_holds_8 (lv_at hl 4 rfl) ?_
  refine lv_aload_n hx hb dX1_holds_10 rfl (lv_at hl 0 rfl) ?_
  refine va_get (D := E.1) (ci := 1) (v := .int 9) (C := RX1) (T := TX1) (N := 5) hx hb hts inX1 hown hK hP 0 rfl rfl 3 (by decide) fl22 (fun _ h9 => h9) rfl dX1_holds_11 ?_
  refine lv_icmp_le (tgt := 19) hx hb dX1_holds_14 (by decide) (fun c9 => ?_) (fun c9 => absurd c9 (fun h => h (inR_t.mp hf).2))
  refine lv_iconst (v := 0) hx hb dX1_holds_19 (by decide) ?_
  refine lv_istore (lv' := [(5, .int 0), (0, .ref h0), (1, .int place), (2, .int day), (3, .int crew), (4, .int force)]) hx hb dX1_holds_20 hl (by decide) rfl (fun ls hl => ?_)
  refine lv_iload hx hb dX1_holds_22 (lv_at hl 0 rfl) ?_
  refine lv_aload_n hx hb dX1_holds_24 rfl (lv_at hl 1 rfl) ?_
  refine va_get (D := E.1) (ci := 1) (v := .int 0) (C := RX1) (T := TX1) (N := 5) hx hb hts inX1 hown hK hP 0 rfl rfl 1 (by decide) fl15 (fun _ h9 => h9) rfl dX1_holds_25 ?_
  refine lv_icmp_ge (tgt := 64) hx hb dX1_holds_28 (by decide) (fun _ => ?_) (fun c9 => absurd c9 (by decide))
  refine lv_iconst (v := 1) hx hb dX1_holds_64 (by decide) ?_
  have hP9 := hP.sub (ws' := []) [] rfl
  have hD9 := hD.sub (ws' := []) [] (by decide) rfl
  exact W.zret (v := 1) hx hb hr (by decide) (fun t ht hW => ⟨⟨1, (), rfl, rfl, by rw [ht]; exact hP9, hD9⟩, hS.F ht⟩) hS.2.2 dX1_holds_65
set_option maxHeartbeats 4000000 in
set_option maxRecDepth 100000 in
theorem c_X11_covers (l : Launch) (E : vE) (h0 : Nat) (tp : Nat) (rd : Nat) (se : Nat) (ba : Nat) (of : Nat) (pl : Nat) (sr : Nat) (sc : Nat) (bo : Nat) (sp : Nat) (pa : Nat) (ru : Nat) (co : Nat) (tr : Nat) (fb : Nat → Option Nat) (bx : Nat) (b : Int32) (place : Int32) (day : Int32) (crew : Int32) (force : Int32) (sz : Nat) (hfb : inR b 0 5 = true → fb b.toNatClampNeg = some bo) : Met l yX11_covers wsX11_covers ({ frames := 2, cells := 0, slots := 0, locals := 40 }) (pcW E [.ref h0, .int b, .int place, .int day, .int crew, .int force] sz [(h0, .inr (11, [.ref tp, .ref rd, .ref se, .ref ba, .ref of, .ref pl, .ref sr, .ref sc, .int 0])), (ba, .inl (E.2 4, 6, .inr (.inr (.inr (.inr fb))))), (bo, .inr (0, [.ref sp, .ref pa, .int 0, .ref ru, .ref co, .ref tr])), (co, .inr (1, [.ref bx, .int 0, .int 0, .int 9, .int 0]))]) (va_Qi (fun (r : Int32) (_ : Unit) => r = cond (inR b 0 5 && isPl place && inR day 0 999 && inR crew 0 9 && inR force 0 9) 1 (-2)) (fun (_ : Unit) (t : State) => wB E (va_A [(h0, .inr (11, [.ref tp, .ref rd, .ref se, .ref ba, .ref of, .ref pl, .ref sr, .ref sc, .int 0])), (ba, .inl (E.2 4, 6, .inr (.inr (.inr (.inr fb))))), (bo, .inr (0, [.ref sp, .ref pa, .int 0, .ref ru, .ref co, .ref tr])), (co, .inr (1, [.ref bx, .int 0, .int 0, .int 9, .int 0]))] sz) [] t) (va_A [(h0, .inr (11, [.ref tp, .ref rd, .ref se, .ref ba, .ref of, .ref pl, .ref sr, .ref sc, .int 0])), (ba, .inl (E.2 4, 6, .inr (.inr (.inr (.inr fb))))), (bo, .inr (0, [.ref sp, .ref pa, .int 0, .ref ru, .ref co, .ref tr])), (co, .inr (1, [.ref bx, .int 0, .int 0, .int 9, .int 0]))] sz)) 0 0 (va_A [(h0, .inr (11, [.ref tp, .ref rd, .ref se, .ref ba, .ref of, .ref pl, .ref sr, .ref sc, .int 0])), (ba, .inl (E.2 4, 6, .inr (.inr (.inr (.inr fb))))), (bo, .inr (0, [.ref sp, .ref pa, .int 0, .ref ru, .ref co, .ref tr])), (co, .inr (1, [.ref bx, .int 0, .int 0, .int 9, .int 0]))] sz) := by
  refine Met.ofW (cc := cX11_covers) (maxL := 6) (ret := (some .int)) (by decide) rfl ?_
  intro p e s m args below meth c s₁ B hml hv
  obtain ⟨rfl, hsz, hP, hkn, hD0, hst⟩ := hv
  have hx := B.exec
  have hb := B.bytes
  have hr := B.returns
  have hts := atoms_spec (ws := wsX11_covers) B.pre
  have hown : s.vm.findClass RX11 = some m.cls := findClass_of_methodNamed B.named
  have hlocks := B.notSynchronized
  subst hsz
  have hD := hD0.self (sz := s.heap.size)
  have hK := hkn.1
  have hAO := hkn.2.2
  generalize hAe : va_A [(h0, .inr (11, [.ref tp, .ref rd, .ref se, .ref ba, .ref of, .ref pl, .ref sr, .ref sc, .int 0])), (ba, .inl (E.2 4, 6, .inr (.inr (.inr (.inr fb))))), (bo, .inr (0, [.ref sp, .ref pa, .int 0, .ref ru, .ref co, .ref tr])), (co, .inr (1, [.ref bx, .int 0, .int 0, .int 9, .int 0]))] s.heap.size = A at hD hst ⊢
  have hA : ∀ q : Nat, s.heap.size ≤ q → A q := fun q h => by rw [← hAe]; exact Or.inr h
  have hS : va_S A s.heap s.heap [] := va_S.rf
  have hP : va_P E.1 vwCl [(h0, .inr (11, [.ref tp, .ref rd, .ref se, .ref ba, .ref of, .ref pl, .ref sr, .ref sc, .int 0])), (ba, .inl (E.2 4, 6, .inr (.inr (.inr (.inr fb))))), (bo, .inr (0, [.ref sp, .ref pa, .int 0, .ref ru, .ref co, .ref tr])), (co, .inr (1, [.ref bx, .int 0, .int 0, .int 9, .int 0]))] s.heap := hP
  have hl := lv_entry ([.ref h0, .int b, .int place, .int day, .int crew, .int force]) (n := 6) (Nat.le_of_ble_eq_true rfl)
  rw [lg_entry_eq]
  generalize (lg_sl ([.ref h0, .int b, .int place, .int day, .int crew, .int force]) ++ List.replicate (6 - (lg_sl ([.ref h0, .int b, .int place, .int day, .int crew, .int force])).length) Slot.unset).toArray = ls at hl ⊢
  have hl : lv_has ls 6 [(0, .ref h0), (1, .int b), (2, .int place), (3, .int day), (4, .int crew), (5, .int force)] := hl
  have fl34 := hts (.fieldLink RX11 34 "BoatsHome" "boats" "[LBoatsHome$Boat;") (by decide +kernel)
  have fl128 := hts (.fieldLink RX11 128 "BoatsHome$Boat" "cover" "LBoatsHome$Cover;") (by decide +kernel)
  have inX0 : ∀ w ∈ u_ws RX0 TX0 6, w ∈ wsX11_covers := by decide +kernel
  have inX11 : ∀ w ∈ u_ws RX11 TX11 9, w ∈ wsX11_covers := by decide +kernel
  refine lv_iload_n hx hb dX11_covers_0 rfl (lv_at hl 1 rfl) ?_
  refine lv_bipush (v := 6) hx hb dX11_covers_1 (by decide) ?_
  have hPc := hP.sub (ws' := []) [] rfl
  have hDc := hD.sub (ws' := []) [] (by decide) rfl
  have hFc := va_free (wc := []) hD hS hA [] rfl
  refine va_calli (va_runS (As := [.int b, .int 6]) (rest := []) ⟨hx, hb, hml, hown, hts⟩ (c_X11_below l E b 6 5 s.heap.size (lt_le (by decide))) (va_cwS 2 hts gX11_covers_X11_below rfl rfl rfl (by decide +kernel) ⟨Nat.le_of_ble_eq_true rfl, Nat.le_of_ble_eq_true rfl⟩) ⟨pcW_blind, (pcW_pre hPc hkn hDc hst hS hFc)⟩ rfl rfl hl.1 rfl (lv_room (Nat.le_of_ble_eq_true rfl)) dX11_covers_3 ⟨Nat.le_of_ble_eq_true rfl, Nat.le_of_ble_eq_true rfl⟩) hS (fun q _ h => hFc q h) hFc (fun r1 u t H1 locs ht hvm hw2 hB hz1 hk1 hS => ?_)
  obtain ⟨hP1, hD1⟩ := hB
  rw [ht] at hP1
  try dsimp only at hw2
  obtain ⟨hP, hD⟩ := va_join (wr := [(h0, .inr (11, [.ref tp, .ref rd, .ref se, .ref ba, .ref of, .ref pl, .ref sr, .ref sc, .int 0])), (ba, .inl (E.2 4, 6, .inr (.inr (.inr (.inr fb))))), (bo, .inr (0, [.ref sp, .ref pa, .int 0, .ref ru, .ref co, .ref tr])), (co, .inr (1, [.ref bx, .int 0, .int 0, .int 9, .int 0]))]) (w1 := []) hP hD [] [0, 1, 2, 3] rfl rfl (by decide) (by decide) hk1 hFc hP1 hD1
  generalize H1 = H at hP hS ⊢
  have hP : va_P E.1 vwCl [(h0, .inr (11, [.ref tp, .ref rd, .ref se, .ref ba, .ref of, .ref pl, .ref sr, .ref sc, .int 0])), (ba, .inl (E.2 4, 6, .inr (.inr (.inr (.inr fb))))), (bo, .inr (0, [.ref sp, .ref pa, .int 0, .ref ru, .ref co, .ref tr])), (co, .inr (1, [.ref bx, .int 0, .int 0, .int 9, .int 0]))] H := hP
  have hD : va_D A [(h0, .inr (11, [.ref tp, .ref rd, .ref se, .ref ba, .ref of, .ref pl, .ref sr, .ref sc, .int 0])), (ba, .inl (E.2 4, 6, .inr (.inr (.inr (.inr fb))))), (bo, .inr (0, [.ref sp, .ref pa, .int 0, .ref ru, .ref co, .ref tr])), (co, .inr (1, [.ref bx, .int 0, .int 0, .int 9, .int 0]))] := hD
  refine lv_if_eq (tgt := 49) hx hb dX11_covers_6 (by decide) (fun c3 => ?_) (fun c3 => ?_)
  · have b4 : inR b 0 5 = false := bz hw2 c3
    refine lv_bipush (v := (-2)) hx hb dX11_covers_49 (by decide) ?_
    have hP9 := hP.sub (ws' := []) [] rfl
    have hD9 := hD.sub (ws' := []) [] (by decide) rfl
    exact W.iret (v := (-2)) hx hb hr (fun t ht hW => ⟨⟨(-2), (), rfl, (by first | (rw [b4]; done) | (rw [b4]; rfl)), by rw [ht]; exact hP9, hD9⟩, hS.F ht⟩) hS.2.2 dX11_covers_51
  · have b5 : inR b 0 5 = true := bn hw2 c3
    refine lv_iload_n hx hb dX11_covers_9 rfl (lv_at hl 2 rfl) ?_
    have hPc := hP.sub (ws' := []) [] rfl
    have hDc := hD.sub (ws' := []) [] (by decide) rfl
    have hFc := va_free (wc := []) hD hS hA [] rfl
    refine va_calli (va_runS (As := [.int place]) (rest := []) ⟨hx, hb, hml, hown, hts⟩ (c_X11_isPlace l E place H.size ) (va_cwS 1 hts gX11_covers_X11_isPlace rfl rfl rfl (by decide +kernel) ⟨Nat.le_of_ble_eq_true rfl, Nat.le_of_ble_eq_true rfl⟩) ⟨pcW_blind, (pcW_pre hPc hkn hDc hst hS hFc)⟩ rfl rfl hl.1 rfl (lv_room (Nat.le_of_ble_eq_true rfl)) dX11_covers_10 ⟨Nat.le_of_ble_eq_true rfl, Nat.le_of_ble_eq_true rfl⟩) hS (fun q _ h => hFc q h) hFc (fun r6 u t H1 locs ht hvm hw7 hB hz1 hk1 hS => ?_)
    obtain ⟨hP1, hD1⟩ := hB
    rw [ht] at hP1
    try dsimp only at hw7
    obtain ⟨hP, hD⟩ := va_join (wr := [(h0, .inr (11, [.ref tp, .ref rd, .ref se, .ref ba, .ref of, .ref pl, .ref sr, .ref sc, .int 0])), (ba, .inl (E.2 4, 6, .inr (.inr (.inr (.inr fb))))), (bo, .inr (0, [.ref sp, .ref pa, .int 0, .ref ru, .ref co, .ref tr])), (co, .inr (1, [.ref bx, .int 0, .int 0, .int 9, .int 0]))]) (w1 := []) hP hD [] [0, 1, 2, 3] rfl rfl (by decide) (by decide) hk1 hFc hP1 hD1
    generalize H1 = H at hP hS ⊢
    have hP : va_P E.1 vwCl [(h0, .inr (11, [.ref tp, .ref rd, .ref se, .ref ba, .ref of, .ref pl, .ref sr, .ref sc, .int 0])), (ba, .inl (E.2 4, 6, .inr (.inr (.inr (.inr fb))))), (bo, .inr (0, [.ref sp, .ref pa, .int 0, .ref ru, .ref co, .ref tr])), (co, .inr (1, [.ref bx, .int 0, .int 0, .int 9, .int 0]))] H := hP
    have hD : va_D A [(h0, .inr (11, [.ref tp, .ref rd, .ref se, .ref ba, .ref of, .ref pl, .ref sr, .ref sc, .int 0])), (ba, .inl (E.2 4, 6, .inr (.inr (.inr (.inr fb))))), (bo, .inr (0, [.ref sp, .ref pa, .int 0, .ref ru, .ref co, .ref tr])), (co, .inr (1, [.ref bx, .int 0, .int 0, .int 9, .int 0]))] := hD
    refine lv_if_eq (tgt := 49) hx hb dX11_covers_13 (by decide) (fun c8 => ?_) (fun c8 => ?_)
    · have b9 : isPl place = false := bz hw7 c8
      refine lv_bipush (v := (-2)) hx hb dX11_covers_49 (by decide) ?_
      have hP9 := hP.sub (ws' := []) [] rfl
      have hD9 := hD.sub (ws' := []) [] (by decide) rfl
      exact W.iret (v := (-2)) hx hb hr (fun t ht hW => ⟨⟨(-2), (), rfl, (by first | (rw [b5, b9]; done) | (rw [b5, b9]; rfl)), by rw [ht]; exact hP9, hD9⟩, hS.F ht⟩) hS.2.2 dX11_covers_51
    · have b10 : isPl place = true := bn hw7 c8
      refine lv_iload_n hx hb dX11_covers_16 rfl (lv_at hl 3 rfl) ?_
      refine lv_iconst (v := 0) hx hb dX11_covers_17 (by decide) ?_
      refine lv_sipush (v := 999) hx hb dX11_covers_18 (by decide) ?_
      have hPc := hP.sub (ws' := []) [] rfl
      have hDc := hD.sub (ws' := []) [] (by decide) rfl
      have hFc := va_free (wc := []) hD hS hA [] rfl
      refine va_calli (va_runS (As := [.int day, .int 0, .int 999]) (rest := []) ⟨hx, hb, hml, hown, hts⟩ (c_X11_within l E day 0 999 H.size ) (va_cwS 3 hts gX11_covers_X11_within rfl rfl rfl (by decide +kernel) ⟨Nat.le_of_ble_eq_true rfl, Nat.le_of_ble_eq_true rfl⟩) ⟨pcW_blind, (pcW_pre hPc hkn hDc hst hS hFc)⟩ rfl rfl hl.1 rfl (lv_room (Nat.le_of_ble_eq_true rfl)) dX11_covers_21 ⟨Nat.le_of_ble_eq_true rfl, Nat.le_of_ble_eq_true rfl⟩) hS (fun q _ h => hFc q h) hFc (fun r11 u t H1 locs ht hvm hw12 hB hz1 hk1 hS => ?_)
      obtain ⟨hP1, hD1⟩ := hB
      rw [ht] at hP1
      try dsimp only at hw12
      obtain ⟨hP, hD⟩ := va_join (wr := [(h0, .inr (11, [.ref tp, .ref rd, .ref se, .ref ba, .ref of, .ref pl, .ref sr, .ref sc, .int 0])), (ba, .inl (E.2 4, 6, .inr (.inr (.inr (.inr fb))))), (bo, .inr (0, [.ref sp, .ref pa, .int 0, .ref ru, .ref co, .ref tr])), (co, .inr (1, [.ref bx, .int 0, .int 0, .int 9, .int 0]))]) (w1 := []) hP hD [] [0, 1, 2, 3] rfl rfl (by decide) (by decide) hk1 hFc hP1 hD1
      generalize H1 = H at hP hS ⊢
      have hP : va_P E.1 vwCl [(h0, .inr (11, [.ref tp, .ref rd, .ref se, .ref ba, .ref of, .ref pl, .ref sr, .ref sc, .int 0])), (ba, .inl (E.2 4, 6, .inr (.inr (.inr (.inr fb))))), (bo, .inr (0, [.ref sp, .ref pa, .int 0, .ref ru, .ref co, .ref tr])), (co, .inr (1, [.ref bx, .int 0, .int 0, .int 9, .int 0]))] H := hP
      have hD : va_D A [(h0, .inr (11, [.ref tp, .ref rd, .ref se, .ref ba, .ref of, .ref pl, .ref sr, .ref sc, .int 0])), (ba, .inl (E.2 4, 6, .inr (.inr (.inr (.inr fb))))), (bo, .inr (0, [.ref sp, .ref pa, .int 0, .ref ru, .ref co, .ref tr])), (co, .inr (1, [.ref bx, .int 0, .int 0, .int 9, .int 0]))] := hD
      refine lv_if_eq (tgt := 49) hx hb dX11_covers_24 (by decide) (fun c13 => ?_) (fun c13 => ?_)
      · have b14 : inR day 0 999 = false := bz hw12 c13
        refine lv_bipush (v := (-2)) hx hb dX11_covers_49 (by decide) ?_
        have hP9 := hP.sub (ws' := []) [] rfl
        have hD9 := hD.sub (ws' := []) [] (by decide) rfl
        exact W.iret (v := (-2)) hx hb hr (fun t ht hW => ⟨⟨(-2), (), rfl, (by first | (rw [b5, b10, b14]; done) | (rw [b5, b10, b14]; rfl)), by rw [ht]; exact hP9, hD9⟩, hS.F ht⟩) hS.2.2 dX11_covers_51
      · have b15 : inR day 0 999 = true := bn hw12 c13
        refine lv_iload hx hb dX11_covers_27 (lv_at hl 4 rfl) ?_
        refine lv_iconst (v := 0) hx hb dX11_covers_29 (by decide) ?_
        refine lv_bipush (v := 9) hx hb dX11_covers_30 (by decide) ?_
        have hPc := hP.sub (ws' := []) [] rfl
        have hDc := hD.sub (ws' := []) [] (by decide) rfl
        have hFc := va_free (wc := []) hD hS hA [] rfl
        refine va_calli (va_runS (As := [.int crew, .int 0, .int 9]) (rest := []) ⟨hx, hb, hml, hown, hts⟩ (c_X11_within l E crew 0 9 H.size ) (va_cwS 3 hts gX11_covers_X11_within rfl rfl rfl (by decide +kernel) ⟨Nat.le_of_ble_eq_true rfl, Nat.le_of_ble_eq_true rfl⟩) ⟨pcW_blind, (pcW_pre hPc hkn hDc hst hS hFc)⟩ rfl rfl hl.1 rfl (lv_room (Nat.le_of_ble_eq_true rfl)) dX11_covers_32 ⟨Nat.le_of_ble_eq_true rfl, Nat.le_of_ble_eq_true rfl⟩) hS (fun q _ h => hFc q h) hFc (fun r16 u t H1 locs ht hvm hw17 hB hz1 hk1 hS => ?_)
        obtain ⟨hP1, hD1⟩ := hB
        rw [ht] at hP1
        try dsimp only at hw17
        obtain ⟨hP, hD⟩ := va_join (wr := [(h0, .inr (11, [.ref tp, .ref rd, .ref se, .ref ba, .ref of, .ref pl, .ref sr, .ref sc, .int 0])), (ba, .inl (E.2 4, 6, .inr (.inr (.inr (.inr fb))))), (bo, .inr (0, [.ref sp, .ref pa, .int 0, .ref ru, .ref co, .ref tr])), (co, .inr (1, [.ref bx, .int 0, .int 0, .int 9, .int 0]))]) (w1 := []) hP hD [] [0, 1, 2, 3] rfl rfl (by decide) (by decide) hk1 hFc hP1 hD1
        generalize H1 = H at hP hS ⊢
        have hP : va_P E.1 vwCl [(h0, .inr (11, [.ref tp, .ref rd, .ref se, .ref ba, .ref of, .ref pl, .ref sr, .ref sc, .int 0])), (ba, .inl (E.2 4, 6, .inr (.inr (.inr (.inr fb))))), (bo, .inr (0, [.ref sp, .ref pa, .int 0, .ref ru, .ref co, .ref tr])), (co, .inr (1, [.ref bx, .int 0, .int 0, .int 9, .int 0]))] H := hP
        have hD : va_D A [(h0, .inr (11, [.ref tp, .ref rd, .ref se, .ref ba, .ref of, .ref pl, .ref sr, .ref sc, .int 0])), (ba, .inl (E.2 4, 6, .inr (.inr (.inr (.inr fb))))), (bo, .inr (0, [.ref sp, .ref pa, .int 0, .ref ru, .ref co, .ref tr])), (co, .inr (1, [.ref bx, .int 0, .int 0, .int 9, .int 0]))] := hD
        refine lv_if_eq (tgt := 49) hx hb dX11_covers_35 (by decide) (fun c18 => ?_) (fun c18 => ?_)
        · have b19 : inR crew 0 9 = false := bz hw17 c18
          refine lv_bipush (v := (-2)) hx hb dX11_covers_49 (by decide) ?_
          have hP9 := hP.sub (ws' := []) [] rfl
          have hD9 := hD.sub (ws' := []) [] (by decide) rfl
          exact W.iret (v := (-2)) hx hb hr (fun t ht hW => ⟨⟨(-2), (), rfl, (by first | (rw [b5, b10, b15, b19]; done) | (rw [b5, b10, b15, b19]; rfl)), by rw [ht]; exact hP9, hD9⟩, hS.F ht⟩) hS.2.2 dX11_covers_51
        · have b20 : inR crew 0 9 = true := bn hw17 c18
          refine lv_iload hx hb dX11_covers_38 (lv_at hl 5 rfl) ?_
          refine lv_iconst (v := 0) hx hb dX11_covers_40 (by decide) ?_
          refine lv_bipush (v := 9) hx hb dX11_covers_41 (by decide) ?_
          have hPc := hP.sub (ws' := []) [] rfl
          have hDc := hD.sub (ws' := []) [] (by decide) rfl
          have hFc := va_free (wc := []) hD hS hA [] rfl
          refine va_calli (va_runS (As := [.int force, .int 0, .int 9]) (rest := []) ⟨hx, hb, hml, hown, hts⟩ (c_X11_within l E force 0 9 H.size ) (va_cwS 3 hts gX11_covers_X11_within rfl rfl rfl (by decide +kernel) ⟨Nat.le_of_ble_eq_true rfl, Nat.le_of_ble_eq_true rfl⟩) ⟨pcW_blind, (pcW_pre hPc hkn hDc hst hS hFc)⟩ rfl rfl hl.1 rfl (lv_room (Nat.le_of_ble_eq_true rfl)) dX11_covers_43 ⟨Nat.le_of_ble_eq_true rfl, Nat.le_of_ble_eq_true rfl⟩) hS (fun q _ h => hFc q h) hFc (fun r21 u t H1 locs ht hvm hw22 hB hz1 hk1 hS => ?_)
          obtain ⟨hP1, hD1⟩ := hB
          rw [ht] at hP1
          try dsimp only at hw22
          obtain ⟨hP, hD⟩ := va_join (wr := [(h0, .inr (11, [.ref tp, .ref rd, .ref se, .ref ba, .ref of, .ref pl, .ref sr, .ref sc, .int 0])), (ba, .inl (E.2 4, 6, .inr (.inr (.inr (.inr fb))))), (bo, .inr (0, [.ref sp, .ref pa, .int 0, .ref ru, .ref co, .ref tr])), (co, .inr (1, [.ref bx, .int 0, .int 0, .int 9, .int 0]))]) (w1 := []) hP hD [] [0, 1, 2, 3] rfl rfl (by decide) (by decide) hk1 hFc hP1 hD1
          generalize H1 = H at hP hS ⊢
          have hP : va_P E.1 vwCl [(h0, .inr (11, [.ref tp, .ref rd, .ref se, .ref ba, .ref of, .ref pl, .ref sr, .ref sc, .int 0])), (ba, .inl (E.2 4, 6, .inr (.inr (.inr (.inr fb))))), (bo, .inr (0, [.ref sp, .ref pa, .int 0, .ref ru, .ref co, .ref tr])), (co, .inr (1, [.ref bx, .int 0, .int 0, .int 9, .int 0]))] H := hP
          have hD : va_D A [(h0, .inr (11, [.ref tp, .ref rd, .ref se, .ref ba, .ref of, .ref pl, .ref sr, .ref sc, .int 0])), (ba, .inl (E.2 4, 6, .inr (.inr (.inr (.inr fb))))), (bo, .inr (0, [.ref sp, .ref pa, .int 0, .ref ru, .ref co, .ref tr])), (co, .inr (1, [.ref bx, .int 0, .int 0, .int 9, .int 0]))] := hD
          refine lv_if_ne (tgt := 52) hx hb dX11_covers_46 (by decide) (fun c23 => ?_) (fun c23 => ?_)
          · have b24 : inR force 0 9 = true := bn hw22 c23
            refine lv_aload_n hx hb dX11_covers_52 rfl (lv_at hl 0 rfl) ?_
            refine va_get (D := E.1) (ci := 11) (v := .ref ba) (C := RX11) (T := TX11) (N := 9) hx hb hts inX11 hown hK hP 0 rfl rfl 3 (by decide) fl34 (fun _ h9 => h9) rfl dX11_covers_53 ?_
            refine lv_iload_n hx hb dX11_covers_56 rfl (lv_at hl 1 rfl) ?_
            have hi25 : vp_in b 6 := inR_in (by decide) b5
            refine va_aldq hx hb hK hP 1 4 rfl rfl hi25 dX11_covers_57 ?_
            rw [show va_rf (fb b.toNatClampNeg) = .ref bo from by rw [hfb b5]; rfl]
            refine va_get (D := E.1) (ci := 0) (v := .ref co) (C := RX0) (T := TX0) (N := 6) hx hb hts inX0 hown hK hP 2 rfl rfl 4 (by decide) fl128 (fun _ h9 => h9) rfl dX11_covers_58 ?_
            refine lv_iload_n hx hb dX11_covers_61 rfl (lv_at hl 2 rfl) ?_
            refine lv_iload_n hx hb dX11_covers_62 rfl (lv_at hl 3 rfl) ?_
            refine lv_iload hx hb dX11_covers_63 (lv_at hl 4 rfl) ?_
            refine lv_iload hx hb dX11_covers_65 (lv_at hl 5 rfl) ?_
            have hPc := hP.sub (ws' := [(co, .inr (1, [.ref bx, .int 0, .int 0, .int 9, .int 0]))]) [3] rfl
            have hDc := hD.sub (ws' := [(co, .inr (1, [.ref bx, .int 0, .int 0, .int 9, .int 0]))]) [3] (by decide) rfl
            have hFc := va_free (wc := [(co, .inr (1, [.ref bx, .int 0, .int 0, .int 9, .int 0]))]) hD hS hA [3] rfl
            refine va_calli (va_runV (As := [.int place, .int day, .int crew, .int force]) (rest := []) ⟨hx, hb, hml, hown, hts⟩ (c_X1_holds l E co bx place day crew force H.size b20 b24) (cwV 4 hts gX11_covers_X1_holds rfl rfl rfl (by decide +kernel) ⟨Nat.le_of_ble_eq_true rfl, Nat.le_of_ble_eq_true rfl⟩) ⟨pcW_blind, va_recv hK hPc (ci := 1) (q0 := 0) rfl rfl, (pcW_pre hPc hkn hDc hst hS hFc)⟩ rfl rfl hl.1 rfl (lv_room (Nat.le_of_ble_eq_true rfl)) dX11_covers_67 ⟨Nat.le_of_ble_eq_true rfl, Nat.le_of_ble_eq_true rfl⟩) hS (fun q _ h => hFc q h) hFc (fun r26 u t H1 locs ht hvm hw27 hB hz1 hk1 hS => ?_)
            obtain ⟨hP1, hD1⟩ := hB
            rw [ht] at hP1
            try dsimp only at hw27
            obtain ⟨hP, hD⟩ := va_join (wr := [(h0, .inr (11, [.ref tp, .ref rd, .ref se, .ref ba, .ref of, .ref pl, .ref sr, .ref sc, .int 0])), (ba, .inl (E.2 4, 6, .inr (.inr (.inr (.inr fb))))), (bo, .inr (0, [.ref sp, .ref pa, .int 0, .ref ru, .ref co, .ref tr]))]) (w1 := []) hP hD [3] [0, 1, 2] rfl rfl (by decide) (by decide) hk1 hFc hP1 hD1
            generalize H1 = H at hP hS ⊢
            have hP : va_P E.1 vwCl [(h0, .inr (11, [.ref tp, .ref rd, .ref se, .ref ba, .ref of, .ref pl, .ref sr, .ref sc, .int 0])), (ba, .inl (E.2 4, 6, .inr (.inr (.inr (.inr fb))))), (bo, .inr (0, [.ref sp, .ref pa, .int 0, .ref ru, .ref co, .ref tr]))] H := hP
            have hD : va_D A [(h0, .inr (11, [.ref tp, .ref rd, .ref se, .ref ba, .ref of, .ref pl, .ref sr, .ref sc, .int 0])), (ba, .inl (E.2 4, 6, .inr (.inr (.inr (.inr fb))))), (bo, .inr (0, [.ref sp, .ref pa, .int 0, .ref ru, .ref co, .ref tr]))] := hD
            obtain rfl : r26 = 1 := hw27
            refine lv_if_eq (tgt := 77) hx hb dX11_covers_70 (by decide) (fun c9 => absurd c9 (by decide)) (fun _ => ?_)
            refine lv_iconst (v := 1) hx hb dX11_covers_73 (by decide) ?_
            refine lv_goto (tgt := 78) hx hb dX11_covers_74 (by decide) ?_
            have hP9 := hP.sub (ws' := []) [] rfl
            have hD9 := hD.sub (ws' := []) [] (by decide) rfl
            exact W.iret (v := 1) hx hb hr (fun t ht hW => ⟨⟨1, (), rfl, (by first | (rw [b5, b10, b15, b20, b24]; done) | (rw [b5, b10, b15, b20, b24]; rfl)), by rw [ht]; exact hP9, hD9⟩, hS.F ht⟩) hS.2.2 dX11_covers_78
          · have b28 : inR force 0 9 = false := bz hw22 c23
            refine lv_bipush (v := (-2)) hx hb dX11_covers_49 (by decide) ?_
            have hP9 := hP.sub (ws' := []) [] rfl
            have hD9 := hD.sub (ws' := []) [] (by decide) rfl
            exact W.iret (v := (-2)) hx hb hr (fun t ht hW => ⟨⟨(-2), (), rfl, (by first | (rw [b5, b10, b15, b20, b28]; done) | (rw [b5, b10, b15, b20, b28]; rfl)), by rw [ht]; exact hP9, hD9⟩, hS.F ht⟩) hS.2.2 dX11_covers_51
set_option maxHeartbeats 4000000 in
set_option maxRecDepth 100000 in
theorem c_X4_start (l : Launch) (E : vE) (h0 : Nat) (wy : Nat) (port : Int32) (place : Int32) (day : Int32) (crew : Int32) (sz : Nat) : Met l yX4_start wsX4_start ({ frames := 0, cells := 0, slots := 0, locals := 0 }) (pcW E [.ref h0, .int port, .int place, .int day, .int crew] sz [(h0, .inr (4, [.ref wy, .int 0, .int 0, .int (-1), .int 0, .int 0, .int 0, .int 0, .int 0, .int 0, .int 0, .int 0, .int 0, .int 0, .int (-1), .int 0]))]) (va_Qv (fun (_ : Unit) => True) (fun (_ : Unit) (t : State) => wB E (va_A [(h0, .inr (4, [.ref wy, .int 0, .int 0, .int (-1), .int 0, .int 0, .int 0, .int 0, .int 0, .int 0, .int 0, .int 0, .int 0, .int 0, .int (-1), .int 0]))] sz) [] t) (va_A [(h0, .inr (4, [.ref wy, .int 0, .int 0, .int (-1), .int 0, .int 0, .int 0, .int 0, .int 0, .int 0, .int 0, .int 0, .int 0, .int 0, .int (-1), .int 0]))] sz)) 0 0 (va_A [(h0, .inr (4, [.ref wy, .int 0, .int 0, .int (-1), .int 0, .int 0, .int 0, .int 0, .int 0, .int 0, .int 0, .int 0, .int 0, .int 0, .int (-1), .int 0]))] sz) := by
  refine Met.ofW (cc := cX4_start) (maxL := 5) (ret := none) (by decide) rfl ?_
  intro p e s m args below meth c s₁ B hml hv
  obtain ⟨rfl, hsz, hP, hkn, hD0, hst⟩ := hv
  have hx := B.exec
  have hb := B.bytes
  have hr := B.returns
  have hts := atoms_spec (ws := wsX4_start) B.pre
  have hown : s.vm.findClass RX4 = some m.cls := findClass_of_methodNamed B.named
  have hlocks := B.notSynchronized
  subst hsz
  have hD := hD0.self (sz := s.heap.size)
  have hK := hkn.1
  have hAO := hkn.2.2
  generalize hAe : va_A [(h0, .inr (4, [.ref wy, .int 0, .int 0, .int (-1), .int 0, .int 0, .int 0, .int 0, .int 0, .int 0, .int 0, .int 0, .int 0, .int 0, .int (-1), .int 0]))] s.heap.size = A at hD hst ⊢
  have hA : ∀ q : Nat, s.heap.size ≤ q → A q := fun q h => by rw [← hAe]; exact Or.inr h
  have hS : va_S A s.heap s.heap [] := va_S.rf
  have hP : va_P E.1 vwCl [(h0, .inr (4, [.ref wy, .int 0, .int 0, .int (-1), .int 0, .int 0, .int 0, .int 0, .int 0, .int 0, .int 0, .int 0, .int 0, .int 0, .int (-1), .int 0]))] s.heap := hP
  have hl := lv_entry ([.ref h0, .int port, .int place, .int day, .int crew]) (n := 5) (Nat.le_of_ble_eq_true rfl)
  rw [lg_entry_eq]
  generalize (lg_sl ([.ref h0, .int port, .int place, .int day, .int crew]) ++ List.replicate (5 - (lg_sl ([.ref h0, .int port, .int place, .int day, .int crew])).length) Slot.unset).toArray = ls at hl ⊢
  have hl : lv_has ls 5 [(0, .ref h0), (1, .int port), (2, .int place), (3, .int day), (4, .int crew)] := hl
  have fl15 := hts (.fieldLink RX4 15 "BoatsHome$Passage" "wayLength" "I") (by decide +kernel)
  have fl19 := hts (.fieldLink RX4 19 "BoatsHome$Passage" "passed" "I") (by decide +kernel)
  have fl22 := hts (.fieldLink RX4 22 "BoatsHome$Passage" "state" "I") (by decide +kernel)
  have fl25 := hts (.fieldLink RX4 25 "BoatsHome$Passage" "homePort" "I") (by decide +kernel)
  have fl28 := hts (.fieldLink RX4 28 "BoatsHome$Passage" "firstDay" "I") (by decide +kernel)
  have fl31 := hts (.fieldLink RX4 31 "BoatsHome$Passage" "people" "I") (by decide +kernel)
  have fl34 := hts (.fieldLink RX4 34 "BoatsHome$Passage" "at" "I") (by decide +kernel)
  have fl37 := hts (.fieldLink RX4 37 "BoatsHome$Passage" "gone" "I") (by decide +kernel)
  have fl40 := hts (.fieldLink RX4 40 "BoatsHome$Passage" "turned" "Z") (by decide +kernel)
  have fl44 := hts (.fieldLink RX4 44 "BoatsHome$Passage" "watches" "I") (by decide +kernel)
  have fl47 := hts (.fieldLink RX4 47 "BoatsHome$Passage" "cells" "I") (by decide +kernel)
  have fl50 := hts (.fieldLink RX4 50 "BoatsHome$Passage" "waited" "I") (by decide +kernel)
  have fl53 := hts (.fieldLink RX4 53 "BoatsHome$Passage" "uncovered" "I") (by decide +kernel)
  have fl56 := hts (.fieldLink RX4 56 "BoatsHome$Passage" "firstUncovered" "I") (by decide +kernel)
  have fl59 := hts (.fieldLink RX4 59 "BoatsHome$Passage" "dry" "I") (by decide +kernel)
  have inX4 : ∀ w ∈ u_ws RX4 TX4 16, w ∈ wsX4_start := by decide +kernel
  refine lv_aload_n hx hb dX4_start_0 rfl (lv_at hl 0 rfl) ?_
  refine lv_iconst (v := 0) hx hb dX4_start_1 (by decide) ?_
  refine va_put (D := E.1) (ci := 4) (v := .int 0) (ty := .int) (C := RX4) (T := TX4) (N := 16) hx hb hts inX4 tyX4 tyX4_ok nmX4 hown hK hP hD hS 0 rfl rfl 1 (by decide) fl15 (fun _ h9 => h9) rfl (by decide +kernel) rfl rfl (Nat.le_of_ble_eq_true rfl) dX4_start_2 (fun H locs hP hD hS => ?_)
  have hP : va_P E.1 vwCl [(h0, .inr (4, [.ref wy, .int 0, .int 0, .int (-1), .int 0, .int 0, .int 0, .int 0, .int 0, .int 0, .int 0, .int 0, .int 0, .int 0, .int (-1), .int 0]))] H := hP
  have hD : va_D A [(h0, .inr (4, [.ref wy, .int 0, .int 0, .int (-1), .int 0, .int 0, .int 0, .int 0, .int 0, .int 0, .int 0, .int 0, .int 0, .int 0, .int (-1), .int 0]))] := hD
  refine lv_aload_n hx hb dX4_start_5 rfl (lv_at hl 0 rfl) ?_
  refine lv_iconst (v := 0) hx hb dX4_start_6 (by decide) ?_
  refine va_put (D := E.1) (ci := 4) (v := .int 0) (ty := .int) (C := RX4) (T := TX4) (N := 16) hx hb hts inX4 tyX4 tyX4_ok nmX4 hown hK hP hD hS 0 rfl rfl 2 (by decide) fl19 (fun _ h9 => h9) rfl (by decide +kernel) rfl rfl (Nat.le_of_ble_eq_true rfl) dX4_start_7 (fun H locs hP hD hS => ?_)
  have hP : va_P E.1 vwCl [(h0, .inr (4, [.ref wy, .int 0, .int 0, .int (-1), .int 0, .int 0, .int 0, .int 0, .int 0, .int 0, .int 0, .int 0, .int 0, .int 0, .int (-1), .int 0]))] H := hP
  have hD : va_D A [(h0, .inr (4, [.ref wy, .int 0, .int 0, .int (-1), .int 0, .int 0, .int 0, .int 0, .int 0, .int 0, .int 0, .int 0, .int 0, .int 0, .int (-1), .int 0]))] := hD
  refine lv_aload_n hx hb dX4_start_10 rfl (lv_at hl 0 rfl) ?_
  refine lv_iconst (v := 0) hx hb dX4_start_11 (by decide) ?_
  refine va_put (D := E.1) (ci := 4) (v := .int 0) (ty := .int) (C := RX4) (T := TX4) (N := 16) hx hb hts inX4 tyX4 tyX4_ok nmX4 hown hK hP hD hS 0 rfl rfl 3 (by decide) fl22 (fun _ h9 => h9) rfl (by decide +kernel) rfl rfl (Nat.le_of_ble_eq_true rfl) dX4_start_12 (fun H locs hP hD hS => ?_)
  have hP : va_P E.1 vwCl [(h0, .inr (4, [.ref wy, .int 0, .int 0, .int 0, .int 0, .int 0, .int 0, .int 0, .int 0, .int 0, .int 0, .int 0, .int 0, .int 0, .int (-1), .int 0]))] H := hP
  have hD : va_D A [(h0, .inr (4, [.ref wy, .int 0, .int 0, .int 0, .int 0, .int 0, .int 0, .int 0, .int 0, .int 0, .int 0, .int 0, .int 0, .int 0, .int (-1), .int 0]))] := hD
  refine lv_aload_n hx hb dX4_start_15 rfl (lv_at hl 0 rfl) ?_
  refine lv_iload_n hx hb dX4_start_16 rfl (lv_at hl 1 rfl) ?_
  refine va_put (D := E.1) (ci := 4) (v := .int port) (ty := .int) (C := RX4) (T := TX4) (N := 16) hx hb hts inX4 tyX4 tyX4_ok nmX4 hown hK hP hD hS 0 rfl rfl 4 (by decide) fl25 (fun _ h9 => h9) rfl (by decide +kernel) rfl rfl (Nat.le_of_ble_eq_true rfl) dX4_start_17 (fun H locs hP hD hS => ?_)
  have hP : va_P E.1 vwCl [(h0, .inr (4, [.ref wy, .int 0, .int 0, .int 0, .int port, .int 0, .int 0, .int 0, .int 0, .int 0, .int 0, .int 0, .int 0, .int 0, .int (-1), .int 0]))] H := hP
  have hD : va_D A [(h0, .inr (4, [.ref wy, .int 0, .int 0, .int 0, .int port, .int 0, .int 0, .int 0, .int 0, .int 0, .int 0, .int 0, .int 0, .int 0, .int (-1), .int 0]))] := hD
  refine lv_aload_n hx hb dX4_start_20 rfl (lv_at hl 0 rfl) ?_
  refine lv_iload_n hx hb dX4_start_21 rfl (lv_at hl 3 rfl) ?_
  refine va_put (D := E.1) (ci := 4) (v := .int day) (ty := .int) (C := RX4) (T := TX4) (N := 16) hx hb hts inX4 tyX4 tyX4_ok nmX4 hown hK hP hD hS 0 rfl rfl 5 (by decide) fl28 (fun _ h9 => h9) rfl (by decide +kernel) rfl rfl (Nat.le_of_ble_eq_true rfl) dX4_start_22 (fun H locs hP hD hS => ?_)
  have hP : va_P E.1 vwCl [(h0, .inr (4, [.ref wy, .int 0, .int 0, .int 0, .int port, .int day, .int 0, .int 0, .int 0, .int 0, .int 0, .int 0, .int 0, .int 0, .int (-1), .int 0]))] H := hP
  have hD : va_D A [(h0, .inr (4, [.ref wy, .int 0, .int 0, .int 0, .int port, .int day, .int 0, .int 0, .int 0, .int 0, .int 0, .int 0, .int 0, .int 0, .int (-1), .int 0]))] := hD
  refine lv_aload_n hx hb dX4_start_25 rfl (lv_at hl 0 rfl) ?_
  refine lv_iload hx hb dX4_start_26 (lv_at hl 4 rfl) ?_
  refine va_put (D := E.1) (ci := 4) (v := .int crew) (ty := .int) (C := RX4) (T := TX4) (N := 16) hx hb hts inX4 tyX4 tyX4_ok nmX4 hown hK hP hD hS 0 rfl rfl 6 (by decide) fl31 (fun _ h9 => h9) rfl (by decide +kernel) rfl rfl (Nat.le_of_ble_eq_true rfl) dX4_start_28 (fun H locs hP hD hS => ?_)
  have hP : va_P E.1 vwCl [(h0, .inr (4, [.ref wy, .int 0, .int 0, .int 0, .int port, .int day, .int crew, .int 0, .int 0, .int 0, .int 0, .int 0, .int 0, .int 0, .int (-1), .int 0]))] H := hP
  have hD : va_D A [(h0, .inr (4, [.ref wy, .int 0, .int 0, .int 0, .int port, .int day, .int crew, .int 0, .int 0, .int 0, .int 0, .int 0, .int 0, .int 0, .int (-1), .int 0]))] := hD
  refine lv_aload_n hx hb dX4_start_31 rfl (lv_at hl 0 rfl) ?_
  refine lv_iload_n hx hb dX4_start_32 rfl (lv_at hl 2 rfl) ?_
  refine va_put (D := E.1) (ci := 4) (v := .int place) (ty := .int) (C := RX4) (T := TX4) (N := 16) hx hb hts inX4 tyX4 tyX4_ok nmX4 hown hK hP hD hS 0 rfl rfl 7 (by decide) fl34 (fun _ h9 => h9) rfl (by decide +kernel) rfl rfl (Nat.le_of_ble_eq_true rfl) dX4_start_33 (fun H locs hP hD hS => ?_)
  have hP : va_P E.1 vwCl [(h0, .inr (4, [.ref wy, .int 0, .int 0, .int 0, .int port, .int day, .int crew, .int place, .int 0, .int 0, .int 0, .int 0, .int 0, .int 0, .int (-1), .int 0]))] H := hP
  have hD : va_D A [(h0, .inr (4, [.ref wy, .int 0, .int 0, .int 0, .int port, .int day, .int crew, .int place, .int 0, .int 0, .int 0, .int 0, .int 0, .int 0, .int (-1), .int 0]))] := hD
  refine lv_aload_n hx hb dX4_start_36 rfl (lv_at hl 0 rfl) ?_
  refine lv_iconst (v := 0) hx hb dX4_start_37 (by decide) ?_
  refine va_put (D := E.1) (ci := 4) (v := .int 0) (ty := .int) (C := RX4) (T := TX4) (N := 16) hx hb hts inX4 tyX4 tyX4_ok nmX4 hown hK hP hD hS 0 rfl rfl 8 (by decide) fl37 (fun _ h9 => h9) rfl (by decide +kernel) rfl rfl (Nat.le_of_ble_eq_true rfl) dX4_start_38 (fun H locs hP hD hS => ?_)
  have hP : va_P E.1 vwCl [(h0, .inr (4, [.ref wy, .int 0, .int 0, .int 0, .int port, .int day, .int crew, .int place, .int 0, .int 0, .int 0, .int 0, .int 0, .int 0, .int (-1), .int 0]))] H := hP
  have hD : va_D A [(h0, .inr (4, [.ref wy, .int 0, .int 0, .int 0, .int port, .int day, .int crew, .int place, .int 0, .int 0, .int 0, .int 0, .int 0, .int 0, .int (-1), .int 0]))] := hD
  refine lv_aload_n hx hb dX4_start_41 rfl (lv_at hl 0 rfl) ?_
  refine lv_iconst (v := 0) hx hb dX4_start_42 (by decide) ?_
  refine va_put (D := E.1) (ci := 4) (v := .int 0) (ty := .boolean) (C := RX4) (T := TX4) (N := 16) hx hb hts inX4 tyX4 tyX4_ok nmX4 hown hK hP hD hS 0 rfl rfl 9 (by decide) fl40 (fun _ h9 => h9) rfl (by decide +kernel) (by first | rfl | decide) (by first | rfl | decide) (Nat.le_of_ble_eq_true rfl) dX4_start_43 (fun H locs hP hD hS => ?_)
  have hP : va_P E.1 vwCl [(h0, .inr (4, [.ref wy, .int 0, .int 0, .int 0, .int port, .int day, .int crew, .int place, .int 0, .int 0, .int 0, .int 0, .int 0, .int 0, .int (-1), .int 0]))] H := hP
  have hD : va_D A [(h0, .inr (4, [.ref wy, .int 0, .int 0, .int 0, .int port, .int day, .int crew, .int place, .int 0, .int 0, .int 0, .int 0, .int 0, .int 0, .int (-1), .int 0]))] := hD
  refine lv_aload_n hx hb dX4_start_46 rfl (lv_at hl 0 rfl) ?_
  refine lv_iconst (v := 0) hx hb dX4_start_47 (by decide) ?_
  refine va_put (D := E.1) (ci := 4) (v := .int 0) (ty := .int) (C := RX4) (T := TX4) (N := 16) hx hb hts inX4 tyX4 tyX4_ok nmX4 hown hK hP hD hS 0 rfl rfl 10 (by decide) fl44 (fun _ h9 => h9) rfl (by decide +kernel) rfl rfl (Nat.le_of_ble_eq_true rfl) dX4_start_48 (fun H locs hP hD hS => ?_)
  have hP : va_P E.1 vwCl [(h0, .inr (4, [.ref wy, .int 0, .int 0, .int 0, .int port, .int day, .int crew, .int place, .int 0, .int 0, .int 0, .int 0, .int 0, .int 0, .int (-1), .int 0]))] H := hP
  have hD : va_D A [(h0, .inr (4, [.ref wy, .int 0, .int 0, .int 0, .int port, .int day, .int crew, .int place, .int 0, .int 0, .int 0, .int 0, .int 0, .int 0, .int (-1), .int 0]))] := hD
  refine lv_aload_n hx hb dX4_start_51 rfl (lv_at hl 0 rfl) ?_
  refine lv_iconst (v := 0) hx hb dX4_start_52 (by decide) ?_
  refine va_put (D := E.1) (ci := 4) (v := .int 0) (ty := .int) (C := RX4) (T := TX4) (N := 16) hx hb hts inX4 tyX4 tyX4_ok nmX4 hown hK hP hD hS 0 rfl rfl 11 (by decide) fl47 (fun _ h9 => h9) rfl (by decide +kernel) rfl rfl (Nat.le_of_ble_eq_true rfl) dX4_start_53 (fun H locs hP hD hS => ?_)
  have hP : va_P E.1 vwCl [(h0, .inr (4, [.ref wy, .int 0, .int 0, .int 0, .int port, .int day, .int crew, .int place, .int 0, .int 0, .int 0, .int 0, .int 0, .int 0, .int (-1), .int 0]))] H := hP
  have hD : va_D A [(h0, .inr (4, [.ref wy, .int 0, .int 0, .int 0, .int port, .int day, .int crew, .int place, .int 0, .int 0, .int 0, .int 0, .int 0, .int 0, .int (-1), .int 0]))] := hD
  refine lv_aload_n hx hb dX4_start_56 rfl (lv_at hl 0 rfl) ?_
  refine lv_iconst (v := 0) hx hb dX4_start_57 (by decide) ?_
  refine va_put (D := E.1) (ci := 4) (v := .int 0) (ty := .int) (C := RX4) (T := TX4) (N := 16) hx hb hts inX4 tyX4 tyX4_ok nmX4 hown hK hP hD hS 0 rfl rfl 12 (by decide) fl50 (fun _ h9 => h9) rfl (by decide +kernel) rfl rfl (Nat.le_of_ble_eq_true rfl) dX4_start_58 (fun H locs hP hD hS => ?_)
  have hP : va_P E.1 vwCl [(h0, .inr (4, [.ref wy, .int 0, .int 0, .int 0, .int port, .int day, .int crew, .int place, .int 0, .int 0, .int 0, .int 0, .int 0, .int 0, .int (-1), .int 0]))] H := hP
  have hD : va_D A [(h0, .inr (4, [.ref wy, .int 0, .int 0, .int 0, .int port, .int day, .int crew, .int place, .int 0, .int 0, .int 0, .int 0, .int 0, .int 0, .int (-1), .int 0]))] := hD
  refine lv_aload_n hx hb dX4_start_61 rfl (lv_at hl 0 rfl) ?_
  refine lv_iconst (v := 0) hx hb dX4_start_62 (by decide) ?_
  refine va_put (D := E.1) (ci := 4) (v := .int 0) (ty := .int) (C := RX4) (T := TX4) (N := 16) hx hb hts inX4 tyX4 tyX4_ok nmX4 hown hK hP hD hS 0 rfl rfl 13 (by decide) fl53 (fun _ h9 => h9) rfl (by decide +kernel) rfl rfl (Nat.le_of_ble_eq_true rfl) dX4_start_63 (fun H locs hP hD hS => ?_)
  have hP : va_P E.1 vwCl [(h0, .inr (4, [.ref wy, .int 0, .int 0, .int 0, .int port, .int day, .int crew, .int place, .int 0, .int 0, .int 0, .int 0, .int 0, .int 0, .int (-1), .int 0]))] H := hP
  have hD : va_D A [(h0, .inr (4, [.ref wy, .int 0, .int 0, .int 0, .int port, .int day, .int crew, .int place, .int 0, .int 0, .int 0, .int 0, .int 0, .int 0, .int (-1), .int 0]))] := hD
  refine lv_aload_n hx hb dX4_start_66 rfl (lv_at hl 0 rfl) ?_
  refine lv_iconst (v := (-1)) hx hb dX4_start_67 (by decide) ?_
  refine va_put (D := E.1) (ci := 4) (v := .int (-1)) (ty := .int) (C := RX4) (T := TX4) (N := 16) hx hb hts inX4 tyX4 tyX4_ok nmX4 hown hK hP hD hS 0 rfl rfl 14 (by decide) fl56 (fun _ h9 => h9) rfl (by decide +kernel) rfl rfl (Nat.le_of_ble_eq_true rfl) dX4_start_68 (fun H locs hP hD hS => ?_)
  have hP : va_P E.1 vwCl [(h0, .inr (4, [.ref wy, .int 0, .int 0, .int 0, .int port, .int day, .int crew, .int place, .int 0, .int 0, .int 0, .int 0, .int 0, .int 0, .int (-1), .int 0]))] H := hP
  have hD : va_D A [(h0, .inr (4, [.ref wy, .int 0, .int 0, .int 0, .int port, .int day, .int crew, .int place, .int 0, .int 0, .int 0, .int 0, .int 0, .int 0, .int (-1), .int 0]))] := hD
  refine lv_aload_n hx hb dX4_start_71 rfl (lv_at hl 0 rfl) ?_
  refine lv_iconst (v := 0) hx hb dX4_start_72 (by decide) ?_
  refine va_put (D := E.1) (ci := 4) (v := .int 0) (ty := .int) (C := RX4) (T := TX4) (N := 16) hx hb hts inX4 tyX4 tyX4_ok nmX4 hown hK hP hD hS 0 rfl rfl 15 (by decide) fl59 (fun _ h9 => h9) rfl (by decide +kernel) rfl rfl (Nat.le_of_ble_eq_true rfl) dX4_start_73 (fun H locs hP hD hS => ?_)
  have hP : va_P E.1 vwCl [(h0, .inr (4, [.ref wy, .int 0, .int 0, .int 0, .int port, .int day, .int crew, .int place, .int 0, .int 0, .int 0, .int 0, .int 0, .int 0, .int (-1), .int 0]))] H := hP
  have hD : va_D A [(h0, .inr (4, [.ref wy, .int 0, .int 0, .int 0, .int port, .int day, .int crew, .int place, .int 0, .int 0, .int 0, .int 0, .int 0, .int 0, .int (-1), .int 0]))] := hD
  have hP9 := hP.sub (ws' := []) [] rfl
  have hD9 := hD.sub (ws' := []) [] (by decide) rfl
  exact W.vret hx hb hr (fun t ht hW => ⟨⟨(), rfl, trivial, by rw [ht]; exact hP9, hD9⟩, hS.F ht⟩) hS.2.2 dX4_start_76
set_option maxHeartbeats 4000000 in
set_option maxRecDepth 100000 in
theorem c_X11_begin (l : Launch) (E : vE) (h0 : Nat) (tp : Nat) (rd : Nat) (se : Nat) (ba : Nat) (of : Nat) (pl : Nat) (sr : Nat) (sc : Nat) (bo : Nat) (sp : Nat) (pa : Nat) (ru : Nat) (co : Nat) (tr : Nat) (fb : Nat → Option Nat) (wy : Nat) (wi : Nat) (po : Nat) (b : Int32) (pt : Int32) (day : Int32) (crew : Int32) (sz : Nat) (hfb : inR b 0 5 = true → fb b.toNatClampNeg = some bo) : Met l yX11_begin wsX11_begin ({ frames := 2, cells := 0, slots := 0, locals := 40 }) (pcW E [.ref h0, .int b, .int pt, .int day, .int crew] sz [(h0, .inr (11, [.ref tp, .ref rd, .ref se, .ref ba, .ref of, .ref pl, .ref sr, .ref sc, .int 0])), (ba, .inl (E.2 4, 6, .inr (.inr (.inr (.inr fb))))), (bo, .inr (0, [.ref sp, .ref pa, .int 0, .ref ru, .ref co, .ref tr])), (tr, .inr (4, [.ref wy, .int 0, .int 0, .int (-1), .int 0, .int 0, .int 0, .int 0, .int 0, .int 0, .int 0, .int 0, .int 0, .int 0, .int (-1), .int 0])), (se, .inr (8, [.ref wi, .ref po])), (po, .inl (E.2 0, 10, .inl (fun _ => 0)))]) (va_Qi (fun (r : Int32) (_ : Unit) => r = cond (inR b 0 5 && inR pt 0 9 && inR day 0 499 && inR crew 1 9) 1 (-2)) (fun (_ : Unit) (t : State) => wB E (va_A [(h0, .inr (11, [.ref tp, .ref rd, .ref se, .ref ba, .ref of, .ref pl, .ref sr, .ref sc, .int 0])), (ba, .inl (E.2 4, 6, .inr (.inr (.inr (.inr fb))))), (bo, .inr (0, [.ref sp, .ref pa, .int 0, .ref ru, .ref co, .ref tr])), (tr, .inr (4, [.ref wy, .int 0, .int 0, .int (-1), .int 0, .int 0, .int 0, .int 0, .int 0, .int 0, .int 0, .int 0, .int 0, .int 0, .int (-1), .int 0])), (se, .inr (8, [.ref wi, .ref po])), (po, .inl (E.2 0, 10, .inl (fun _ => 0)))] sz) [] t) (va_A [(h0, .inr (11, [.ref tp, .ref rd, .ref se, .ref ba, .ref of, .ref pl, .ref sr, .ref sc, .int 0])), (ba, .inl (E.2 4, 6, .inr (.inr (.inr (.inr fb))))), (bo, .inr (0, [.ref sp, .ref pa, .int 0, .ref ru, .ref co, .ref tr])), (tr, .inr (4, [.ref wy, .int 0, .int 0, .int (-1), .int 0, .int 0, .int 0, .int 0, .int 0, .int 0, .int 0, .int 0, .int 0, .int 0, .int (-1), .int 0])), (se, .inr (8, [.ref wi, .ref po])), (po, .inl (E.2 0, 10, .inl (fun _ => 0)))] sz)) 0 0 (va_A [(h0, .inr (11, [.ref tp, .ref rd, .ref se, .ref ba, .ref of, .ref pl, .ref sr, .ref sc, .int 0])), (ba, .inl (E.2 4, 6, .inr (.inr (.inr (.inr fb))))), (bo, .inr (0, [.ref sp, .ref pa, .int 0, .ref ru, .ref co, .ref tr])), (tr, .inr (4, [.ref wy, .int 0, .int 0, .int (-1), .int 0, .int 0, .int 0, .int 0, .int 0, .int 0, .int 0, .int 0, .int 0, .int 0, .int (-1), .int 0])), (se, .inr (8, [.ref wi, .ref po])), (po, .inl (E.2 0, 10, .inl (fun _ => 0)))] sz) := by
  refine Met.ofW (cc := cX11_begin) (maxL := 5) (ret := (some .int)) (by decide) rfl ?_
  intro p e s m args below meth c s₁ B hml hv
  obtain ⟨rfl, hsz, hP, hkn, hD0, hst⟩ := hv
  have hx := B.exec
  have hb := B.bytes
  have hr := B.returns
  have hts := atoms_spec (ws := wsX11_begin) B.pre
  have hown : s.vm.findClass RX11 = some m.cls := findClass_of_methodNamed B.named
  have hlocks := B.notSynchronized
  subst hsz
  have hD := hD0.self (sz := s.heap.size)
  have hK := hkn.1
  have hAO := hkn.2.2
  generalize hAe : va_A [(h0, .inr (11, [.ref tp, .ref rd, .ref se, .ref ba, .ref of, .ref pl, .ref sr, .ref sc, .int 0])), (ba, .inl (E.2 4, 6, .inr (.inr (.inr (.inr fb))))), (bo, .inr (0, [.ref sp, .ref pa, .int 0, .ref ru, .ref co, .ref tr])), (tr, .inr (4, [.ref wy, .int 0, .int 0, .int (-1), .int 0, .int 0, .int 0, .int 0, .int 0, .int 0, .int 0, .int 0, .int 0, .int 0, .int (-1), .int 0])), (se, .inr (8, [.ref wi, .ref po])), (po, .inl (E.2 0, 10, .inl (fun _ => 0)))] s.heap.size = A at hD hst ⊢
  have hA : ∀ q : Nat, s.heap.size ≤ q → A q := fun q h => by rw [← hAe]; exact Or.inr h
  have hS : va_S A s.heap s.heap [] := va_S.rf
  have hP : va_P E.1 vwCl [(h0, .inr (11, [.ref tp, .ref rd, .ref se, .ref ba, .ref of, .ref pl, .ref sr, .ref sc, .int 0])), (ba, .inl (E.2 4, 6, .inr (.inr (.inr (.inr fb))))), (bo, .inr (0, [.ref sp, .ref pa, .int 0, .ref ru, .ref co, .ref tr])), (tr, .inr (4, [.ref wy, .int 0, .int 0, .int (-1), .int 0, .int 0, .int 0, .int 0, .int 0, .int 0, .int 0, .int 0, .int 0, .int 0, .int (-1), .int 0])), (se, .inr (8, [.ref wi, .ref po])), (po, .inl (E.2 0, 10, .inl (fun _ => 0)))] s.heap := hP
  have hl := lv_entry ([.ref h0, .int b, .int pt, .int day, .int crew]) (n := 5) (Nat.le_of_ble_eq_true rfl)
  rw [lg_entry_eq]
  generalize (lg_sl ([.ref h0, .int b, .int pt, .int day, .int crew]) ++ List.replicate (5 - (lg_sl ([.ref h0, .int b, .int pt, .int day, .int crew])).length) Slot.unset).toArray = ls at hl ⊢
  have hl : lv_has ls 5 [(0, .ref h0), (1, .int b), (2, .int pt), (3, .int day), (4, .int crew)] := hl
  have fl28 := hts (.fieldLink RX11 28 "BoatsHome" "sea" "LBoatsHome$Sea;") (by decide +kernel)
  have fl34 := hts (.fieldLink RX11 34 "BoatsHome" "boats" "[LBoatsHome$Boat;") (by decide +kernel)
  have fl96 := hts (.fieldLink RX11 96 "BoatsHome$Sea" "ports" "[I") (by decide +kernel)
  have fl144 := hts (.fieldLink RX11 144 "BoatsHome$Boat" "trip" "LBoatsHome$Passage;") (by decide +kernel)
  have fl148 := hts (.fieldLink RX11 148 "BoatsHome$Passage" "state" "I") (by decide +kernel)
  have inX0 : ∀ w ∈ u_ws RX0 TX0 6, w ∈ wsX11_begin := by decide +kernel
  have inX11 : ∀ w ∈ u_ws RX11 TX11 9, w ∈ wsX11_begin := by decide +kernel
  have inX4 : ∀ w ∈ u_ws RX4 TX4 16, w ∈ wsX11_begin := by decide +kernel
  have inX8 : ∀ w ∈ u_ws RX8 TX8 2, w ∈ wsX11_begin := by decide +kernel
  refine lv_iload_n hx hb dX11_begin_0 rfl (lv_at hl 1 rfl) ?_
  refine lv_bipush (v := 6) hx hb dX11_begin_1 (by decide) ?_
  have hPc := hP.sub (ws' := []) [] rfl
  have hDc := hD.sub (ws' := []) [] (by decide) rfl
  have hFc := va_free (wc := []) hD hS hA [] rfl
  refine va_calli (va_runS (As := [.int b, .int 6]) (rest := []) ⟨hx, hb, hml, hown, hts⟩ (c_X11_below l E b 6 5 s.heap.size (lt_le (by decide))) (va_cwS 2 hts gX11_begin_X11_below rfl rfl rfl (by decide +kernel) ⟨Nat.le_of_ble_eq_true rfl, Nat.le_of_ble_eq_true rfl⟩) ⟨pcW_blind, (pcW_pre hPc hkn hDc hst hS hFc)⟩ rfl rfl hl.1 rfl (lv_room (Nat.le_of_ble_eq_true rfl)) dX11_begin_3 ⟨Nat.le_of_ble_eq_true rfl, Nat.le_of_ble_eq_true rfl⟩) hS (fun q _ h => hFc q h) hFc (fun r1 u t H1 locs ht hvm hw2 hB hz1 hk1 hS => ?_)
  obtain ⟨hP1, hD1⟩ := hB
  rw [ht] at hP1
  try dsimp only at hw2
  obtain ⟨hP, hD⟩ := va_join (wr := [(h0, .inr (11, [.ref tp, .ref rd, .ref se, .ref ba, .ref of, .ref pl, .ref sr, .ref sc, .int 0])), (ba, .inl (E.2 4, 6, .inr (.inr (.inr (.inr fb))))), (bo, .inr (0, [.ref sp, .ref pa, .int 0, .ref ru, .ref co, .ref tr])), (tr, .inr (4, [.ref wy, .int 0, .int 0, .int (-1), .int 0, .int 0, .int 0, .int 0, .int 0, .int 0, .int 0, .int 0, .int 0, .int 0, .int (-1), .int 0])), (se, .inr (8, [.ref wi, .ref po])), (po, .inl (E.2 0, 10, .inl (fun _ => 0)))]) (w1 := []) hP hD [] [0, 1, 2, 3, 4, 5] rfl rfl (by decide) (by decide) hk1 hFc hP1 hD1
  generalize H1 = H at hP hS ⊢
  have hP : va_P E.1 vwCl [(h0, .inr (11, [.ref tp, .ref rd, .ref se, .ref ba, .ref of, .ref pl, .ref sr, .ref sc, .int 0])), (ba, .inl (E.2 4, 6, .inr (.inr (.inr (.inr fb))))), (bo, .inr (0, [.ref sp, .ref pa, .int 0, .ref ru, .ref co, .ref tr])), (tr, .inr (4, [.ref wy, .int 0, .int 0, .int (-1), .int 0, .int 0, .int 0, .int 0, .int 0, .int 0, .int 0, .int 0, .int 0, .int 0, .int (-1), .int 0])), (se, .inr (8, [.ref wi, .ref po])), (po, .inl (E.2 0, 10, .inl (fun _ => 0)))] H := hP
  have hD : va_D A [(h0, .inr (11, [.ref tp, .ref rd, .ref se, .ref ba, .ref of, .ref pl, .ref sr, .ref sc, .int 0])), (ba, .inl (E.2 4, 6, .inr (.inr (.inr (.inr fb))))), (bo, .inr (0, [.ref sp, .ref pa, .int 0, .ref ru, .ref co, .ref tr])), (tr, .inr (4, [.ref wy, .int 0, .int 0, .int (-1), .int 0, .int 0, .int 0, .int 0, .int 0, .int 0, .int 0, .int 0, .int 0, .int 0, .int (-1), .int 0])), (se, .inr (8, [.ref wi, .ref po])), (po, .inl (E.2 0, 10, .inl (fun _ => 0)))] := hD
  refine lv_if_eq (tgt := 40) hx hb dX11_begin_6 (by decide) (fun c3 => ?_) (fun c3 => ?_)
  · have b4 : inR b 0 5 = false := bz hw2 c3
    refine lv_bipush (v := (-2)) hx hb dX11_begin_40 (by decide) ?_
    have hP9 := hP.sub (ws' := []) [] rfl
    have hD9 := hD.sub (ws' := []) [] (by decide) rfl
    exact W.iret (v := (-2)) hx hb hr (fun t ht hW => ⟨⟨(-2), (), rfl, (by first | (rw [b4]; done) | (rw [b4]; rfl)), by rw [ht]; exact hP9, hD9⟩, hS.F ht⟩) hS.2.2 dX11_begin_42
  · have b5 : inR b 0 5 = true := bn hw2 c3
    refine lv_iload_n hx hb dX11_begin_9 rfl (lv_at hl 2 rfl) ?_
    refine lv_bipush (v := 10) hx hb dX11_begin_10 (by decide) ?_
    have hPc := hP.sub (ws' := []) [] rfl
    have hDc := hD.sub (ws' := []) [] (by decide) rfl
    have hFc := va_free (wc := []) hD hS hA [] rfl
    refine va_calli (va_runS (As := [.int pt, .int 10]) (rest := []) ⟨hx, hb, hml, hown, hts⟩ (c_X11_below l E pt 10 9 H.size (lt_le (by decide))) (va_cwS 2 hts gX11_begin_X11_below rfl rfl rfl (by decide +kernel) ⟨Nat.le_of_ble_eq_true rfl, Nat.le_of_ble_eq_true rfl⟩) ⟨pcW_blind, (pcW_pre hPc hkn hDc hst hS hFc)⟩ rfl rfl hl.1 rfl (lv_room (Nat.le_of_ble_eq_true rfl)) dX11_begin_12 ⟨Nat.le_of_ble_eq_true rfl, Nat.le_of_ble_eq_true rfl⟩) hS (fun q _ h => hFc q h) hFc (fun r6 u t H1 locs ht hvm hw7 hB hz1 hk1 hS => ?_)
    obtain ⟨hP1, hD1⟩ := hB
    rw [ht] at hP1
    try dsimp only at hw7
    obtain ⟨hP, hD⟩ := va_join (wr := [(h0, .inr (11, [.ref tp, .ref rd, .ref se, .ref ba, .ref of, .ref pl, .ref sr, .ref sc, .int 0])), (ba, .inl (E.2 4, 6, .inr (.inr (.inr (.inr fb))))), (bo, .inr (0, [.ref sp, .ref pa, .int 0, .ref ru, .ref co, .ref tr])), (tr, .inr (4, [.ref wy, .int 0, .int 0, .int (-1), .int 0, .int 0, .int 0, .int 0, .int 0, .int 0, .int 0, .int 0, .int 0, .int 0, .int (-1), .int 0])), (se, .inr (8, [.ref wi, .ref po])), (po, .inl (E.2 0, 10, .inl (fun _ => 0)))]) (w1 := []) hP hD [] [0, 1, 2, 3, 4, 5] rfl rfl (by decide) (by decide) hk1 hFc hP1 hD1
    generalize H1 = H at hP hS ⊢
    have hP : va_P E.1 vwCl [(h0, .inr (11, [.ref tp, .ref rd, .ref se, .ref ba, .ref of, .ref pl, .ref sr, .ref sc, .int 0])), (ba, .inl (E.2 4, 6, .inr (.inr (.inr (.inr fb))))), (bo, .inr (0, [.ref sp, .ref pa, .int 0, .ref ru, .ref co, .ref tr])), (tr, .inr (4, [.ref wy, .int 0, .int 0, .int (-1), .int 0, .int 0, .int 0, .int 0, .int 0, .int 0, .int 0, .int 0, .int 0, .int 0, .int (-1), .int 0])), (se, .inr (8, [.ref wi, .ref po])), (po, .inl (E.2 0, 10, .inl (fun _ => 0)))] H := hP
    have hD : va_D A [(h0, .inr (11, [.ref tp, .ref rd, .ref se, .ref ba, .ref of, .ref pl, .ref sr, .ref sc, .int 0])), (ba, .inl (E.2 4, 6, .inr (.inr (.inr (.inr fb))))), (bo, .inr (0, [.ref sp, .ref pa, .int 0, .ref ru, .ref co, .ref tr])), (tr, .inr (4, [.ref wy, .int 0, .int 0, .int (-1), .int 0, .int 0, .int 0, .int 0, .int 0, .int 0, .int 0, .int 0, .int 0, .int 0, .int (-1), .int 0])), (se, .inr (8, [.ref wi, .ref po])), (po, .inl (E.2 0, 10, .inl (fun _ => 0)))] := hD
    refine lv_if_eq (tgt := 40) hx hb dX11_begin_15 (by decide) (fun c8 => ?_) (fun c8 => ?_)
    · have b9 : inR pt 0 9 = false := bz hw7 c8
      refine lv_bipush (v := (-2)) hx hb dX11_begin_40 (by decide) ?_
      have hP9 := hP.sub (ws' := []) [] rfl
      have hD9 := hD.sub (ws' := []) [] (by decide) rfl
      exact W.iret (v := (-2)) hx hb hr (fun t ht hW => ⟨⟨(-2), (), rfl, (by first | (rw [b5, b9]; done) | (rw [b5, b9]; rfl)), by rw [ht]; exact hP9, hD9⟩, hS.F ht⟩) hS.2.2 dX11_begin_42
    · have b10 : inR pt 0 9 = true := bn hw7 c8
      refine lv_iload_n hx hb dX11_begin_18 rfl (lv_at hl 3 rfl) ?_
      refine lv_iconst (v := 0) hx hb dX11_begin_19 (by decide) ?_
      refine lv_sipush (v := 499) hx hb dX11_begin_20 (by decide) ?_
      have hPc := hP.sub (ws' := []) [] rfl
      have hDc := hD.sub (ws' := []) [] (by decide) rfl
      have hFc := va_free (wc := []) hD hS hA [] rfl
      refine va_calli (va_runS (As := [.int day, .int 0, .int 499]) (rest := []) ⟨hx, hb, hml, hown, hts⟩ (c_X11_within l E day 0 499 H.size ) (va_cwS 3 hts gX11_begin_X11_within rfl rfl rfl (by decide +kernel) ⟨Nat.le_of_ble_eq_true rfl, Nat.le_of_ble_eq_true rfl⟩) ⟨pcW_blind, (pcW_pre hPc hkn hDc hst hS hFc)⟩ rfl rfl hl.1 rfl (lv_room (Nat.le_of_ble_eq_true rfl)) dX11_begin_23 ⟨Nat.le_of_ble_eq_true rfl, Nat.le_of_ble_eq_true rfl⟩) hS (fun q _ h => hFc q h) hFc (fun r11 u t H1 locs ht hvm hw12 hB hz1 hk1 hS => ?_)
      obtain ⟨hP1, hD1⟩ := hB
      rw [ht] at hP1
      try dsimp only at hw12
      obtain ⟨hP, hD⟩ := va_join (wr := [(h0, .inr (11, [.ref tp, .ref rd, .ref se, .ref ba, .ref of, .ref pl, .ref sr, .ref sc, .int 0])), (ba, .inl (E.2 4, 6, .inr (.inr (.inr (.inr fb))))), (bo, .inr (0, [.ref sp, .ref pa, .int 0, .ref ru, .ref co, .ref tr])), (tr, .inr (4, [.ref wy, .int 0, .int 0, .int (-1), .int 0, .int 0, .int 0, .int 0, .int 0, .int 0, .int 0, .int 0, .int 0, .int 0, .int (-1), .int 0])), (se, .inr (8, [.ref wi, .ref po])), (po, .inl (E.2 0, 10, .inl (fun _ => 0)))]) (w1 := []) hP hD [] [0, 1, 2, 3, 4, 5] rfl rfl (by decide) (by decide) hk1 hFc hP1 hD1
      generalize H1 = H at hP hS ⊢
      have hP : va_P E.1 vwCl [(h0, .inr (11, [.ref tp, .ref rd, .ref se, .ref ba, .ref of, .ref pl, .ref sr, .ref sc, .int 0])), (ba, .inl (E.2 4, 6, .inr (.inr (.inr (.inr fb))))), (bo, .inr (0, [.ref sp, .ref pa, .int 0, .ref ru, .ref co, .ref tr])), (tr, .inr (4, [.ref wy, .int 0, .int 0, .int (-1), .int 0, .int 0, .int 0, .int 0, .int 0, .int 0, .int 0, .int 0, .int 0, .int 0, .int (-1), .int 0])), (se, .inr (8, [.ref wi, .ref po])), (po, .inl (E.2 0, 10, .inl (fun _ => 0)))] H := hP
      have hD : va_D A [(h0, .inr (11, [.ref tp, .ref rd, .ref se, .ref ba, .ref of, .ref pl, .ref sr, .ref sc, .int 0])), (ba, .inl (E.2 4, 6, .inr (.inr (.inr (.inr fb))))), (bo, .inr (0, [.ref sp, .ref pa, .int 0, .ref ru, .ref co, .ref tr])), (tr, .inr (4, [.ref wy, .int 0, .int 0, .int (-1), .int 0, .int 0, .int 0, .int 0, .int 0, .int 0, .int 0, .int 0, .int 0, .int 0, .int (-1), .int 0])), (se, .inr (8, [.ref wi, .ref po])), (po, .inl (E.2 0, 10, .inl (fun _ => 0)))] := hD
      refine lv_if_eq (tgt := 40) hx hb dX11_begin_26 (by decide) (fun c13 => ?_) (fun c13 => ?_)
      · have b14 : inR day 0 499 = false := bz hw12 c13
        refine lv_bipush (v := (-2)) hx hb dX11_begin_40 (by decide) ?_
        have hP9 := hP.sub (ws' := []) [] rfl
        have hD9 := hD.sub (ws' := []) [] (by decide) rfl
        exact W.iret (v := (-2)) hx hb hr (fun t ht hW => ⟨⟨(-2), (), rfl, (by first | (rw [b5, b10, b14]; done) | (rw [b5, b10, b14]; rfl)), by rw [ht]; exact hP9, hD9⟩, hS.F ht⟩) hS.2.2 dX11_begin_42
      · have b15 : inR day 0 499 = true := bn hw12 c13
        refine lv_iload hx hb dX11_begin_29 (lv_at hl 4 rfl) ?_
        refine lv_iconst (v := 1) hx hb dX11_begin_31 (by decide) ?_
        refine lv_bipush (v := 9) hx hb dX11_begin_32 (by decide) ?_
        have hPc := hP.sub (ws' := []) [] rfl
        have hDc := hD.sub (ws' := []) [] (by decide) rfl
        have hFc := va_free (wc := []) hD hS hA [] rfl
        refine va_calli (va_runS (As := [.int crew, .int 1, .int 9]) (rest := []) ⟨hx, hb, hml, hown, hts⟩ (c_X11_within l E crew 1 9 H.size ) (va_cwS 3 hts gX11_begin_X11_within rfl rfl rfl (by decide +kernel) ⟨Nat.le_of_ble_eq_true rfl, Nat.le_of_ble_eq_true rfl⟩) ⟨pcW_blind, (pcW_pre hPc hkn hDc hst hS hFc)⟩ rfl rfl hl.1 rfl (lv_room (Nat.le_of_ble_eq_true rfl)) dX11_begin_34 ⟨Nat.le_of_ble_eq_true rfl, Nat.le_of_ble_eq_true rfl⟩) hS (fun q _ h => hFc q h) hFc (fun r16 u t H1 locs ht hvm hw17 hB hz1 hk1 hS => ?_)
        obtain ⟨hP1, hD1⟩ := hB
        rw [ht] at hP1
        try dsimp only at hw17
        obtain ⟨hP, hD⟩ := va_join (wr := [(h0, .inr (11, [.ref tp, .ref rd, .ref se, .ref ba, .ref of, .ref pl, .ref sr, .ref sc, .int 0])), (ba, .inl (E.2 4, 6, .inr (.inr (.inr (.inr fb))))), (bo, .inr (0, [.ref sp, .ref pa, .int 0, .ref ru, .ref co, .ref tr])), (tr, .inr (4, [.ref wy, .int 0, .int 0, .int (-1), .int 0, .int 0, .int 0, .int 0, .int 0, .int 0, .int 0, .int 0, .int 0, .int 0, .int (-1), .int 0])), (se, .inr (8, [.ref wi, .ref po])), (po, .inl (E.2 0, 10, .inl (fun _ => 0)))]) (w1 := []) hP hD [] [0, 1, 2, 3, 4, 5] rfl rfl (by decide) (by decide) hk1 hFc hP1 hD1
        generalize H1 = H at hP hS ⊢
        have hP : va_P E.1 vwCl [(h0, .inr (11, [.ref tp, .ref rd, .ref se, .ref ba, .ref of, .ref pl, .ref sr, .ref sc, .int 0])), (ba, .inl (E.2 4, 6, .inr (.inr (.inr (.inr fb))))), (bo, .inr (0, [.ref sp, .ref pa, .int 0, .ref ru, .ref co, .ref tr])), (tr, .inr (4, [.ref wy, .int 0, .int 0, .int (-1), .int 0, .int 0, .int 0, .int 0, .int 0, .int 0, .int 0, .int 0, .int 0, .int 0, .int (-1), .int 0])), (se, .inr (8, [.ref wi, .ref po])), (po, .inl (E.2 0, 10, .inl (fun _ => 0)))] H := hP
        have hD : va_D A [(h0, .inr (11, [.ref tp, .ref rd, .ref se, .ref ba, .ref of, .ref pl, .ref sr, .ref sc, .int 0])), (ba, .inl (E.2 4, 6, .inr (.inr (.inr (.inr fb))))), (bo, .inr (0, [.ref sp, .ref pa, .int 0, .ref ru, .ref co, .ref tr])), (tr, .inr (4, [.ref wy, .int 0, .int 0, .int (-1), .int 0, .int 0, .int 0, .int 0, .int 0, .int 0, .int 0, .int 0, .int 0, .int 0, .int (-1), .int 0])), (se, .inr (8, [.ref wi, .ref po])), (po, .inl (E.2 0, 10, .inl (fun _ => 0)))] := hD
        refine lv_if_ne (tgt := 43) hx hb dX11_begin_37 (by decide) (fun c18 => ?_) (fun c18 => ?_)
        · have b19 : inR crew 1 9 = true := bn hw17 c18
          refine lv_aload_n hx hb dX11_begin_43 rfl (lv_at hl 0 rfl) ?_
          refine va_get (D := E.1) (ci := 11) (v := .ref ba) (C := RX11) (T := TX11) (N := 9) hx hb hts inX11 hown hK hP 0 rfl rfl 3 (by decide) fl34 (fun _ h9 => h9) rfl dX11_begin_44 ?_
          refine lv_iload_n hx hb dX11_begin_47 rfl (lv_at hl 1 rfl) ?_
          have hi20 : vp_in b 6 := inR_in (by decide) b5
          refine va_aldq hx hb hK hP 1 4 rfl rfl hi20 dX11_begin_48 ?_
          rw [show va_rf (fb b.toNatClampNeg) = .ref bo from by rw [hfb b5]; rfl]
          refine va_get (D := E.1) (ci := 0) (v := .ref tr) (C := RX0) (T := TX0) (N := 6) hx hb hts inX0 hown hK hP 2 rfl rfl 5 (by decide) fl144 (fun _ h9 => h9) rfl dX11_begin_49 ?_
          refine va_get (D := E.1) (ci := 4) (v := .int (-1)) (C := RX4) (T := TX4) (N := 16) hx hb hts inX4 hown hK hP 3 rfl rfl 3 (by decide) fl148 (fun _ h9 => h9) rfl dX11_begin_52 ?_
          refine lv_if_ne (tgt := 61) hx hb dX11_begin_55 (by decide) (fun _ => ?_) (fun c9 => absurd c9 (by decide))
          refine lv_aload_n hx hb dX11_begin_61 rfl (lv_at hl 0 rfl) ?_
          refine va_get (D := E.1) (ci := 11) (v := .ref ba) (C := RX11) (T := TX11) (N := 9) hx hb hts inX11 hown hK hP 0 rfl rfl 3 (by decide) fl34 (fun _ h9 => h9) rfl dX11_begin_62 ?_
          refine lv_iload_n hx hb dX11_begin_65 rfl (lv_at hl 1 rfl) ?_
          refine va_aldq hx hb hK hP 1 4 rfl rfl hi20 dX11_begin_66 ?_
          rw [show va_rf (fb b.toNatClampNeg) = .ref bo from by rw [hfb b5]; rfl]
          refine va_get (D := E.1) (ci := 0) (v := .ref tr) (C := RX0) (T := TX0) (N := 6) hx hb hts inX0 hown hK hP 2 rfl rfl 5 (by decide) fl144 (fun _ h9 => h9) rfl dX11_begin_67 ?_
          refine lv_iload_n hx hb dX11_begin_70 rfl (lv_at hl 2 rfl) ?_
          refine lv_aload_n hx hb dX11_begin_71 rfl (lv_at hl 0 rfl) ?_
          refine va_get (D := E.1) (ci := 11) (v := .ref se) (C := RX11) (T := TX11) (N := 9) hx hb hts inX11 hown hK hP 0 rfl rfl 2 (by decide) fl28 (fun _ h9 => h9) rfl dX11_begin_72 ?_
          refine va_get (D := E.1) (ci := 8) (v := .ref po) (C := RX8) (T := TX8) (N := 2) hx hb hts inX8 hown hK hP 4 rfl rfl 1 (by decide) fl96 (fun _ h9 => h9) rfl dX11_begin_75 ?_
          refine lv_iload_n hx hb dX11_begin_78 rfl (lv_at hl 2 rfl) ?_
          have hi21 : vp_in pt 10 := inR_in (by decide) b10
          refine va_iald hx hb hK hP 5 0 rfl rfl hi21 dX11_begin_79 ?_
          refine lv_iload_n hx hb dX11_begin_80 rfl (lv_at hl 3 rfl) ?_
          refine lv_iload hx hb dX11_begin_81 (lv_at hl 4 rfl) ?_
          have hPc := hP.sub (ws' := [(tr, .inr (4, [.ref wy, .int 0, .int 0, .int (-1), .int 0, .int 0, .int 0, .int 0, .int 0, .int 0, .int 0, .int 0, .int 0, .int 0, .int (-1), .int 0]))]) [3] rfl
          have hDc := hD.sub (ws' := [(tr, .inr (4, [.ref wy, .int 0, .int 0, .int (-1), .int 0, .int 0, .int 0, .int 0, .int 0, .int 0, .int 0, .int 0, .int 0, .int 0, .int (-1), .int 0]))]) [3] (by decide) rfl
          have hFc := va_free (wc := [(tr, .inr (4, [.ref wy, .int 0, .int 0, .int (-1), .int 0, .int 0, .int 0, .int 0, .int 0, .int 0, .int 0, .int 0, .int 0, .int 0, .int (-1), .int 0]))]) hD hS hA [3] rfl
          refine va_callv (va_runV (As := [.int pt, .int 0, .int day, .int crew]) (rest := []) ⟨hx, hb, hml, hown, hts⟩ (c_X4_start l E tr wy pt 0 day crew H.size ) (cwV 4 hts gX11_begin_X4_start rfl rfl rfl (by decide +kernel) ⟨Nat.le_of_ble_eq_true rfl, Nat.le_of_ble_eq_true rfl⟩) ⟨pcW_blind, va_recv hK hPc (ci := 4) (q0 := 0) rfl rfl, (pcW_pre hPc hkn hDc hst hS hFc)⟩ rfl rfl hl.1 rfl (lv_room (Nat.le_of_ble_eq_true rfl)) dX11_begin_83 ⟨Nat.le_of_ble_eq_true rfl, Nat.le_of_ble_eq_true rfl⟩) hS (fun q _ h => hFc q h) hFc (fun u t H1 locs ht hvm hw23 hB hz1 hk1 hS => ?_)
          obtain ⟨hP1, hD1⟩ := hB
          rw [ht] at hP1
          try dsimp only at hw23
          obtain ⟨hP, hD⟩ := va_join (wr := [(h0, .inr (11, [.ref tp, .ref rd, .ref se, .ref ba, .ref of, .ref pl, .ref sr, .ref sc, .int 0])), (ba, .inl (E.2 4, 6, .inr (.inr (.inr (.inr fb))))), (bo, .inr (0, [.ref sp, .ref pa, .int 0, .ref ru, .ref co, .ref tr])), (se, .inr (8, [.ref wi, .ref po])), (po, .inl (E.2 0, 10, .inl (fun _ => 0)))]) (w1 := []) hP hD [3] [0, 1, 2, 4, 5] rfl rfl (by decide) (by decide) hk1 hFc hP1 hD1
          generalize H1 = H at hP hS ⊢
          have hP : va_P E.1 vwCl [(h0, .inr (11, [.ref tp, .ref rd, .ref se, .ref ba, .ref of, .ref pl, .ref sr, .ref sc, .int 0])), (ba, .inl (E.2 4, 6, .inr (.inr (.inr (.inr fb))))), (bo, .inr (0, [.ref sp, .ref pa, .int 0, .ref ru, .ref co, .ref tr])), (se, .inr (8, [.ref wi, .ref po])), (po, .inl (E.2 0, 10, .inl (fun _ => 0)))] H := hP
          have hD : va_D A [(h0, .inr (11, [.ref tp, .ref rd, .ref se, .ref ba, .ref of, .ref pl, .ref sr, .ref sc, .int 0])), (ba, .inl (E.2 4, 6, .inr (.inr (.inr (.inr fb))))), (bo, .inr (0, [.ref sp, .ref pa, .int 0, .ref ru, .ref co, .ref tr])), (se, .inr (8, [.ref wi, .ref po])), (po, .inl (E.2 0, 10, .inl (fun _ => 0)))] := hD
          refine lv_iconst (v := 1) hx hb dX11_begin_86 (by decide) ?_
          have hP9 := hP.sub (ws' := []) [] rfl
          have hD9 := hD.sub (ws' := []) [] (by decide) rfl
          exact W.iret (v := 1) hx hb hr (fun t ht hW => ⟨⟨1, (), rfl, (by first | (rw [b5, b10, b15, b19]; done) | (rw [b5, b10, b15, b19]; rfl)), by rw [ht]; exact hP9, hD9⟩, hS.F ht⟩) hS.2.2 dX11_begin_87
        · have b24 : inR crew 1 9 = false := bz hw17 c18
          refine lv_bipush (v := (-2)) hx hb dX11_begin_40 (by decide) ?_
          have hP9 := hP.sub (ws' := []) [] rfl
          have hD9 := hD.sub (ws' := []) [] (by decide) rfl
          exact W.iret (v := (-2)) hx hb hr (fun t ht hW => ⟨⟨(-2), (), rfl, (by first | (rw [b5, b10, b15, b24]; done) | (rw [b5, b10, b15, b24]; rfl)), by rw [ht]; exact hP9, hD9⟩, hS.F ht⟩) hS.2.2 dX11_begin_42
set_option maxHeartbeats 4000000 in
set_option maxRecDepth 100000 in
theorem c_X11_place (l : Launch) (E : vE) (h0 : Nat) (tp : Nat) (rd : Nat) (se : Nat) (ba : Nat) (of : Nat) (pl : Nat) (sr : Nat) (sc : Nat) (bo : Nat) (sp : Nat) (pa : Nat) (ru : Nat) (co : Nat) (tr : Nat) (fb : Nat → Option Nat) (wy : Nat) (b : Int32) (place : Int32) (sz : Nat) (hfb : inR b 0 5 = true → fb b.toNatClampNeg = some bo) : Met l yX11_place wsX11_place ({ frames := 2, cells := 0, slots := 0, locals := 40 }) (pcW E [.ref h0, .int b, .int place] sz [(h0, .inr (11, [.ref tp, .ref rd, .ref se, .ref ba, .ref of, .ref pl, .ref sr, .ref sc, .int 0])), (ba, .inl (E.2 4, 6, .inr (.inr (.inr (.inr fb))))), (bo, .inr (0, [.ref sp, .ref pa, .int 0, .ref ru, .ref co, .ref tr])), (tr, .inr (4, [.ref wy, .int 0, .int 0, .int (-1), .int 0, .int 0, .int 0, .int 0, .int 0, .int 0, .int 0, .int 0, .int 0, .int 0, .int (-1), .int 0]))]) (va_Qi (fun (r : Int32) (_ : Unit) => r = cond (inR b 0 5 && isPl place) (-4) (-2)) (fun (_ : Unit) (t : State) => wB E (va_A [(h0, .inr (11, [.ref tp, .ref rd, .ref se, .ref ba, .ref of, .ref pl, .ref sr, .ref sc, .int 0])), (ba, .inl (E.2 4, 6, .inr (.inr (.inr (.inr fb))))), (bo, .inr (0, [.ref sp, .ref pa, .int 0, .ref ru, .ref co, .ref tr])), (tr, .inr (4, [.ref wy, .int 0, .int 0, .int (-1), .int 0, .int 0, .int 0, .int 0, .int 0, .int 0, .int 0, .int 0, .int 0, .int 0, .int (-1), .int 0]))] sz) [] t) (va_A [(h0, .inr (11, [.ref tp, .ref rd, .ref se, .ref ba, .ref of, .ref pl, .ref sr, .ref sc, .int 0])), (ba, .inl (E.2 4, 6, .inr (.inr (.inr (.inr fb))))), (bo, .inr (0, [.ref sp, .ref pa, .int 0, .ref ru, .ref co, .ref tr])), (tr, .inr (4, [.ref wy, .int 0, .int 0, .int (-1), .int 0, .int 0, .int 0, .int 0, .int 0, .int 0, .int 0, .int 0, .int 0, .int 0, .int (-1), .int 0]))] sz)) 0 0 (va_A [(h0, .inr (11, [.ref tp, .ref rd, .ref se, .ref ba, .ref of, .ref pl, .ref sr, .ref sc, .int 0])), (ba, .inl (E.2 4, 6, .inr (.inr (.inr (.inr fb))))), (bo, .inr (0, [.ref sp, .ref pa, .int 0, .ref ru, .ref co, .ref tr])), (tr, .inr (4, [.ref wy, .int 0, .int 0, .int (-1), .int 0, .int 0, .int 0, .int 0, .int 0, .int 0, .int 0, .int 0, .int 0, .int 0, .int (-1), .int 0]))] sz) := by
  refine Met.ofW (cc := cX11_place) (maxL := 4) (ret := (some .int)) (by decide) rfl ?_
  intro p e s m args below meth c s₁ B hml hv
  obtain ⟨rfl, hsz, hP, hkn, hD0, hst⟩ := hv
  have hx := B.exec
  have hb := B.bytes
  have hr := B.returns
  have hts := atoms_spec (ws := wsX11_place) B.pre
  have hown : s.vm.findClass RX11 = some m.cls := findClass_of_methodNamed B.named
  have hlocks := B.notSynchronized
  subst hsz
  have hD := hD0.self (sz := s.heap.size)
  have hK := hkn.1
  have hAO := hkn.2.2
  generalize hAe : va_A [(h0, .inr (11, [.ref tp, .ref rd, .ref se, .ref ba, .ref of, .ref pl, .ref sr, .ref sc, .int 0])), (ba, .inl (E.2 4, 6, .inr (.inr (.inr (.inr fb))))), (bo, .inr (0, [.ref sp, .ref pa, .int 0, .ref ru, .ref co, .ref tr])), (tr, .inr (4, [.ref wy, .int 0, .int 0, .int (-1), .int 0, .int 0, .int 0, .int 0, .int 0, .int 0, .int 0, .int 0, .int 0, .int 0, .int (-1), .int 0]))] s.heap.size = A at hD hst ⊢
  have hA : ∀ q : Nat, s.heap.size ≤ q → A q := fun q h => by rw [← hAe]; exact Or.inr h
  have hS : va_S A s.heap s.heap [] := va_S.rf
  have hP : va_P E.1 vwCl [(h0, .inr (11, [.ref tp, .ref rd, .ref se, .ref ba, .ref of, .ref pl, .ref sr, .ref sc, .int 0])), (ba, .inl (E.2 4, 6, .inr (.inr (.inr (.inr fb))))), (bo, .inr (0, [.ref sp, .ref pa, .int 0, .ref ru, .ref co, .ref tr])), (tr, .inr (4, [.ref wy, .int 0, .int 0, .int (-1), .int 0, .int 0, .int 0, .int 0, .int 0, .int 0, .int 0, .int 0, .int 0, .int 0, .int (-1), .int 0]))] s.heap := hP
  have hl := lv_entry ([.ref h0, .int b, .int place]) (n := 4) (Nat.le_of_ble_eq_true rfl)
  rw [lg_entry_eq]
  generalize (lg_sl ([.ref h0, .int b, .int place]) ++ List.replicate (4 - (lg_sl ([.ref h0, .int b, .int place])).length) Slot.unset).toArray = ls at hl ⊢
  have hl : lv_has ls 4 [(0, .ref h0), (1, .int b), (2, .int place)] := hl
  have fl34 := hts (.fieldLink RX11 34 "BoatsHome" "boats" "[LBoatsHome$Boat;") (by decide +kernel)
  have fl144 := hts (.fieldLink RX11 144 "BoatsHome$Boat" "trip" "LBoatsHome$Passage;") (by decide +kernel)
  have fl148 := hts (.fieldLink RX11 148 "BoatsHome$Passage" "state" "I") (by decide +kernel)
  have fl157 := hts (.fieldLink RX11 157 "BoatsHome$Passage" "watches" "I") (by decide +kernel)
  have inX0 : ∀ w ∈ u_ws RX0 TX0 6, w ∈ wsX11_place := by decide +kernel
  have inX11 : ∀ w ∈ u_ws RX11 TX11 9, w ∈ wsX11_place := by decide +kernel
  have inX4 : ∀ w ∈ u_ws RX4 TX4 16, w ∈ wsX11_place := by decide +kernel
  refine lv_iload_n hx hb dX11_place_0 rfl (lv_at hl 1 rfl) ?_
  refine lv_bipush (v := 6) hx hb dX11_place_1 (by decide) ?_
  have hPc := hP.sub (ws' := []) [] rfl
  have hDc := hD.sub (ws' := []) [] (by decide) rfl
  have hFc := va_free (wc := []) hD hS hA [] rfl
  refine va_calli (va_runS (As := [.int b, .int 6]) (rest := []) ⟨hx, hb, hml, hown, hts⟩ (c_X11_below l E b 6 5 s.heap.size (lt_le (by decide))) (va_cwS 2 hts gX11_place_X11_below rfl rfl rfl (by decide +kernel) ⟨Nat.le_of_ble_eq_true rfl, Nat.le_of_ble_eq_true rfl⟩) ⟨pcW_blind, (pcW_pre hPc hkn hDc hst hS hFc)⟩ rfl rfl hl.1 rfl (lv_room (Nat.le_of_ble_eq_true rfl)) dX11_place_3 ⟨Nat.le_of_ble_eq_true rfl, Nat.le_of_ble_eq_true rfl⟩) hS (fun q _ h => hFc q h) hFc (fun r1 u t H1 locs ht hvm hw2 hB hz1 hk1 hS => ?_)
  obtain ⟨hP1, hD1⟩ := hB
  rw [ht] at hP1
  try dsimp only at hw2
  obtain ⟨hP, hD⟩ := va_join (wr := [(h0, .inr (11, [.ref tp, .ref rd, .ref se, .ref ba, .ref of, .ref pl, .ref sr, .ref sc, .int 0])), (ba, .inl (E.2 4, 6, .inr (.inr (.inr (.inr fb))))), (bo, .inr (0, [.ref sp, .ref pa, .int 0, .ref ru, .ref co, .ref tr])), (tr, .inr (4, [.ref wy, .int 0, .int 0, .int (-1), .int 0, .int 0, .int 0, .int 0, .int 0, .int 0, .int 0, .int 0, .int 0, .int 0, .int (-1), .int 0]))]) (w1 := []) hP hD [] [0, 1, 2, 3] rfl rfl (by decide) (by decide) hk1 hFc hP1 hD1
  generalize H1 = H at hP hS ⊢
  have hP : va_P E.1 vwCl [(h0, .inr (11, [.ref tp, .ref rd, .ref se, .ref ba, .ref of, .ref pl, .ref sr, .ref sc, .int 0])), (ba, .inl (E.2 4, 6, .inr (.inr (.inr (.inr fb))))), (bo, .inr (0, [.ref sp, .ref pa, .int 0, .ref ru, .ref co, .ref tr])), (tr, .inr (4, [.ref wy, .int 0, .int 0, .int (-1), .int 0, .int 0, .int 0, .int 0, .int 0, .int 0, .int 0, .int 0, .int 0, .int 0, .int (-1), .int 0]))] H := hP
  have hD : va_D A [(h0, .inr (11, [.ref tp, .ref rd, .ref se, .ref ba, .ref of, .ref pl, .ref sr, .ref sc, .int 0])), (ba, .inl (E.2 4, 6, .inr (.inr (.inr (.inr fb))))), (bo, .inr (0, [.ref sp, .ref pa, .int 0, .ref ru, .ref co, .ref tr])), (tr, .inr (4, [.ref wy, .int 0, .int 0, .int (-1), .int 0, .int 0, .int 0, .int 0, .int 0, .int 0, .int 0, .int 0, .int 0, .int 0, .int (-1), .int 0]))] := hD
  refine lv_if_eq (tgt := 16) hx hb dX11_place_6 (by decide) (fun c3 => ?_) (fun c3 => ?_)
  · have b4 : inR b 0 5 = false := bz hw2 c3
    refine lv_bipush (v := (-2)) hx hb dX11_place_16 (by decide) ?_
    have hP9 := hP.sub (ws' := []) [] rfl
    have hD9 := hD.sub (ws' := []) [] (by decide) rfl
    exact W.iret (v := (-2)) hx hb hr (fun t ht hW => ⟨⟨(-2), (), rfl, (by first | (rw [b4]; done) | (rw [b4]; rfl)), by rw [ht]; exact hP9, hD9⟩, hS.F ht⟩) hS.2.2 dX11_place_18
  · have b5 : inR b 0 5 = true := bn hw2 c3
    refine lv_iload_n hx hb dX11_place_9 rfl (lv_at hl 2 rfl) ?_
    have hPc := hP.sub (ws' := []) [] rfl
    have hDc := hD.sub (ws' := []) [] (by decide) rfl
    have hFc := va_free (wc := []) hD hS hA [] rfl
    refine va_calli (va_runS (As := [.int place]) (rest := []) ⟨hx, hb, hml, hown, hts⟩ (c_X11_isPlace l E place H.size ) (va_cwS 1 hts gX11_place_X11_isPlace rfl rfl rfl (by decide +kernel) ⟨Nat.le_of_ble_eq_true rfl, Nat.le_of_ble_eq_true rfl⟩) ⟨pcW_blind, (pcW_pre hPc hkn hDc hst hS hFc)⟩ rfl rfl hl.1 rfl (lv_room (Nat.le_of_ble_eq_true rfl)) dX11_place_10 ⟨Nat.le_of_ble_eq_true rfl, Nat.le_of_ble_eq_true rfl⟩) hS (fun q _ h => hFc q h) hFc (fun r6 u t H1 locs ht hvm hw7 hB hz1 hk1 hS => ?_)
    obtain ⟨hP1, hD1⟩ := hB
    rw [ht] at hP1
    try dsimp only at hw7
    obtain ⟨hP, hD⟩ := va_join (wr := [(h0, .inr (11, [.ref tp, .ref rd, .ref se, .ref ba, .ref of, .ref pl, .ref sr, .ref sc, .int 0])), (ba, .inl (E.2 4, 6, .inr (.inr (.inr (.inr fb))))), (bo, .inr (0, [.ref sp, .ref pa, .int 0, .ref ru, .ref co, .ref tr])), (tr, .inr (4, [.ref wy, .int 0, .int 0, .int (-1), .int 0, .int 0, .int 0, .int 0, .int 0, .int 0, .int 0, .int 0, .int 0, .int 0, .int (-1), .int 0]))]) (w1 := []) hP hD [] [0, 1, 2, 3] rfl rfl (by decide) (by decide) hk1 hFc hP1 hD1
    generalize H1 = H at hP hS ⊢
    have hP : va_P E.1 vwCl [(h0, .inr (11, [.ref tp, .ref rd, .ref se, .ref ba, .ref of, .ref pl, .ref sr, .ref sc, .int 0])), (ba, .inl (E.2 4, 6, .inr (.inr (.inr (.inr fb))))), (bo, .inr (0, [.ref sp, .ref pa, .int 0, .ref ru, .ref co, .ref tr])), (tr, .inr (4, [.ref wy, .int 0, .int 0, .int (-1), .int 0, .int 0, .int 0, .int 0, .int 0, .int 0, .int 0, .int 0, .int 0, .int 0, .int (-1), .int 0]))] H := hP
    have hD : va_D A [(h0, .inr (11, [.ref tp, .ref rd, .ref se, .ref ba, .ref of, .ref pl, .ref sr, .ref sc, .int 0])), (ba, .inl (E.2 4, 6, .inr (.inr (.inr (.inr fb))))), (bo, .inr (0, [.ref sp, .ref pa, .int 0, .ref ru, .ref co, .ref tr])), (tr, .inr (4, [.ref wy, .int 0, .int 0, .int (-1), .int 0, .int 0, .int 0, .int 0, .int 0, .int 0, .int 0, .int 0, .int 0, .int 0, .int (-1), .int 0]))] := hD
    refine lv_if_ne (tgt := 19) hx hb dX11_place_13 (by decide) (fun c8 => ?_) (fun c8 => ?_)
    · have b9 : isPl place = true := bn hw7 c8
      refine lv_aload_n hx hb dX11_place_19 rfl (lv_at hl 0 rfl) ?_
      refine va_get (D := E.1) (ci := 11) (v := .ref ba) (C := RX11) (T := TX11) (N := 9) hx hb hts inX11 hown hK hP 0 rfl rfl 3 (by decide) fl34 (fun _ h9 => h9) rfl dX11_place_20 ?_
      refine lv_iload_n hx hb dX11_place_23 rfl (lv_at hl 1 rfl) ?_
      have hi10 : vp_in b 6 := inR_in (by decide) b5
      refine va_aldq hx hb hK hP 1 4 rfl rfl hi10 dX11_place_24 ?_
      rw [show va_rf (fb b.toNatClampNeg) = .ref bo from by rw [hfb b5]; rfl]
      refine va_get (D := E.1) (ci := 0) (v := .ref tr) (C := RX0) (T := TX0) (N := 6) hx hb hts inX0 hown hK hP 2 rfl rfl 5 (by decide) fl144 (fun _ h9 => h9) rfl dX11_place_25 ?_
      refine lv_astore_n (lv' := [(3, .ref tr), (0, .ref h0), (1, .int b), (2, .int place)]) hx hb dX11_place_28 rfl hl (by decide) rfl (fun ls hl => ?_)
      refine lv_aload_n hx hb dX11_place_29 rfl (lv_at hl 0 rfl) ?_
      refine va_get (D := E.1) (ci := 4) (v := .int (-1)) (C := RX4) (T := TX4) (N := 16) hx hb hts inX4 hown hK hP 3 rfl rfl 3 (by decide) fl148 (fun _ h9 => h9) rfl dX11_place_30 ?_
      refine lv_if_ne (tgt := 43) hx hb dX11_place_33 (by decide) (fun _ => ?_) (fun c9 => absurd c9 (by decide))
      refine lv_bipush (v := (-4)) hx hb dX11_place_43 (by decide) ?_
      have hP9 := hP.sub (ws' := []) [] rfl
      have hD9 := hD.sub (ws' := []) [] (by decide) rfl
      exact W.iret (v := (-4)) hx hb hr (fun t ht hW => ⟨⟨(-4), (), rfl, (by first | (rw [b5, b9]; done) | (rw [b5, b9]; rfl)), by rw [ht]; exact hP9, hD9⟩, hS.F ht⟩) hS.2.2 dX11_place_45
    · have b11 : isPl place = false := bz hw7 c8
      refine lv_bipush (v := (-2)) hx hb dX11_place_16 (by decide) ?_
      have hP9 := hP.sub (ws' := []) [] rfl
      have hD9 := hD.sub (ws' := []) [] (by decide) rfl
      exact W.iret (v := (-2)) hx hb hr (fun t ht hW => ⟨⟨(-2), (), rfl, (by first | (rw [b5, b11]; done) | (rw [b5, b11]; rfl)), by rw [ht]; exact hP9, hD9⟩, hS.F ht⟩) hS.2.2 dX11_place_18
set_option maxHeartbeats 4000000 in
set_option maxRecDepth 100000 in
theorem c_X11_sail (l : Launch) (E : vE) (h0 : Nat) (tp : Nat) (rd : Nat) (se : Nat) (ba : Nat) (of : Nat) (pl : Nat) (sr : Nat) (sc : Nat) (bo : Nat) (sp : Nat) (pa : Nat) (ru : Nat) (co : Nat) (tr : Nat) (fb : Nat → Option Nat) (wy : Nat) (b : Int32) (watches : Int32) (sz : Nat) (hfb : inR b 0 5 = true → fb b.toNatClampNeg = some bo) : Met l yX11_sail wsX11_sail ({ frames := 2, cells := 0, slots := 0, locals := 40 }) (pcW E [.ref h0, .int b, .int watches] sz [(h0, .inr (11, [.ref tp, .ref rd, .ref se, .ref ba, .ref of, .ref pl, .ref sr, .ref sc, .int 0])), (ba, .inl (E.2 4, 6, .inr (.inr (.inr (.inr fb))))), (bo, .inr (0, [.ref sp, .ref pa, .int 0, .ref ru, .ref co, .ref tr])), (tr, .inr (4, [.ref wy, .int 0, .int 0, .int (-1), .int 0, .int 0, .int 0, .int 0, .int 0, .int 0, .int 0, .int 0, .int 0, .int 0, .int (-1), .int 0]))]) (va_Qi (fun (r : Int32) (_ : Unit) => r = cond (inR b 0 5 && inR watches 1 400) (-4) (-2)) (fun (_ : Unit) (t : State) => wB E (va_A [(h0, .inr (11, [.ref tp, .ref rd, .ref se, .ref ba, .ref of, .ref pl, .ref sr, .ref sc, .int 0])), (ba, .inl (E.2 4, 6, .inr (.inr (.inr (.inr fb))))), (bo, .inr (0, [.ref sp, .ref pa, .int 0, .ref ru, .ref co, .ref tr])), (tr, .inr (4, [.ref wy, .int 0, .int 0, .int (-1), .int 0, .int 0, .int 0, .int 0, .int 0, .int 0, .int 0, .int 0, .int 0, .int 0, .int (-1), .int 0]))] sz) [] t) (va_A [(h0, .inr (11, [.ref tp, .ref rd, .ref se, .ref ba, .ref of, .ref pl, .ref sr, .ref sc, .int 0])), (ba, .inl (E.2 4, 6, .inr (.inr (.inr (.inr fb))))), (bo, .inr (0, [.ref sp, .ref pa, .int 0, .ref ru, .ref co, .ref tr])), (tr, .inr (4, [.ref wy, .int 0, .int 0, .int (-1), .int 0, .int 0, .int 0, .int 0, .int 0, .int 0, .int 0, .int 0, .int 0, .int 0, .int (-1), .int 0]))] sz)) 0 0 (va_A [(h0, .inr (11, [.ref tp, .ref rd, .ref se, .ref ba, .ref of, .ref pl, .ref sr, .ref sc, .int 0])), (ba, .inl (E.2 4, 6, .inr (.inr (.inr (.inr fb))))), (bo, .inr (0, [.ref sp, .ref pa, .int 0, .ref ru, .ref co, .ref tr])), (tr, .inr (4, [.ref wy, .int 0, .int 0, .int (-1), .int 0, .int 0, .int 0, .int 0, .int 0, .int 0, .int 0, .int 0, .int 0, .int 0, .int (-1), .int 0]))] sz) := by
  refine Met.ofW (cc := cX11_sail) (maxL := 6) (ret := (some .int)) (by decide) rfl ?_
  intro p e s m args below meth c s₁ B hml hv
  obtain ⟨rfl, hsz, hP, hkn, hD0, hst⟩ := hv
  have hx := B.exec
  have hb := B.bytes
  have hr := B.returns
  have hts := atoms_spec (ws := wsX11_sail) B.pre
  have hown : s.vm.findClass RX11 = some m.cls := findClass_of_methodNamed B.named
  have hlocks := B.notSynchronized
  subst hsz
  have hD := hD0.self (sz := s.heap.size)
  have hK := hkn.1
  have hAO := hkn.2.2
  generalize hAe : va_A [(h0, .inr (11, [.ref tp, .ref rd, .ref se, .ref ba, .ref of, .ref pl, .ref sr, .ref sc, .int 0])), (ba, .inl (E.2 4, 6, .inr (.inr (.inr (.inr fb))))), (bo, .inr (0, [.ref sp, .ref pa, .int 0, .ref ru, .ref co, .ref tr])), (tr, .inr (4, [.ref wy, .int 0, .int 0, .int (-1), .int 0, .int 0, .int 0, .int 0, .int 0, .int 0, .int 0, .int 0, .int 0, .int 0, .int (-1), .int 0]))] s.heap.size = A at hD hst ⊢
  have hA : ∀ q : Nat, s.heap.size ≤ q → A q := fun q h => by rw [← hAe]; exact Or.inr h
  have hS : va_S A s.heap s.heap [] := va_S.rf
  have hP : va_P E.1 vwCl [(h0, .inr (11, [.ref tp, .ref rd, .ref se, .ref ba, .ref of, .ref pl, .ref sr, .ref sc, .int 0])), (ba, .inl (E.2 4, 6, .inr (.inr (.inr (.inr fb))))), (bo, .inr (0, [.ref sp, .ref pa, .int 0, .ref ru, .ref co, .ref tr])), (tr, .inr (4, [.ref wy, .int 0, .int 0, .int (-1), .int 0, .int 0, .int 0, .int 0, .int 0, .int 0, .int 0, .int 0, .int 0, .int 0, .int (-1), .int 0]))] s.heap := hP
  have hl := lv_entry ([.ref h0, .int b, .int watches]) (n := 6) (Nat.le_of_ble_eq_true rfl)
  rw [lg_entry_eq]
  generalize (lg_sl ([.ref h0, .int b, .int watches]) ++ List.replicate (6 - (lg_sl ([.ref h0, .int b, .int watches])).length) Slot.unset).toArray = ls at hl ⊢
  have hl : lv_has ls 6 [(0, .ref h0), (1, .int b), (2, .int watches)] := hl
  have fl28 := hts (.fieldLink RX11 28 "BoatsHome" "sea" "LBoatsHome$Sea;") (by decide +kernel)
  have fl34 := hts (.fieldLink RX11 34 "BoatsHome" "boats" "[LBoatsHome$Boat;") (by decide +kernel)
  have fl69 := hts (.fieldLink RX11 69 "BoatsHome" "worked" "I") (by decide +kernel)
  have fl144 := hts (.fieldLink RX11 144 "BoatsHome$Boat" "trip" "LBoatsHome$Passage;") (by decide +kernel)
  have fl148 := hts (.fieldLink RX11 148 "BoatsHome$Passage" "state" "I") (by decide +kernel)
  have fl167 := hts (.fieldLink RX11 167 "BoatsHome$Passage" "wayLength" "I") (by decide +kernel)
  have inX0 : ∀ w ∈ u_ws RX0 TX0 6, w ∈ wsX11_sail := by decide +kernel
  have inX11 : ∀ w ∈ u_ws RX11 TX11 9, w ∈ wsX11_sail := by decide +kernel
  have inX4 : ∀ w ∈ u_ws RX4 TX4 16, w ∈ wsX11_sail := by decide +kernel
  refine lv_iload_n hx hb dX11_sail_0 rfl (lv_at hl 1 rfl) ?_
  refine lv_bipush (v := 6) hx hb dX11_sail_1 (by decide) ?_
  have hPc := hP.sub (ws' := []) [] rfl
  have hDc := hD.sub (ws' := []) [] (by decide) rfl
  have hFc := va_free (wc := []) hD hS hA [] rfl
  refine va_calli (va_runS (As := [.int b, .int 6]) (rest := []) ⟨hx, hb, hml, hown, hts⟩ (c_X11_below l E b 6 5 s.heap.size (lt_le (by decide))) (va_cwS 2 hts gX11_sail_X11_below rfl rfl rfl (by decide +kernel) ⟨Nat.le_of_ble_eq_true rfl, Nat.le_of_ble_eq_true rfl⟩) ⟨pcW_blind, (pcW_pre hPc hkn hDc hst hS hFc)⟩ rfl rfl hl.1 rfl (lv_room (Nat.le_of_ble_eq_true rfl)) dX11_sail_3 ⟨Nat.le_of_ble_eq_true rfl, Nat.le_of_ble_eq_true rfl⟩) hS (fun q _ h => hFc q h) hFc (fun r1 u t H1 locs ht hvm hw2 hB hz1 hk1 hS => ?_)
  obtain ⟨hP1, hD1⟩ := hB
  rw [ht] at hP1
  try dsimp only at hw2
  obtain ⟨hP, hD⟩ := va_join (wr := [(h0, .inr (11, [.ref tp, .ref rd, .ref se, .ref ba, .ref of, .ref pl, .ref sr, .ref sc, .int 0])), (ba, .inl (E.2 4, 6, .inr (.inr (.inr (.inr fb))))), (bo, .inr (0, [.ref sp, .ref pa, .int 0, .ref ru, .ref co, .ref tr])), (tr, .inr (4, [.ref wy, .int 0, .int 0, .int (-1), .int 0, .int 0, .int 0, .int 0, .int 0, .int 0, .int 0, .int 0, .int 0, .int 0, .int (-1), .int 0]))]) (w1 := []) hP hD [] [0, 1, 2, 3] rfl rfl (by decide) (by decide) hk1 hFc hP1 hD1
  generalize H1 = H at hP hS ⊢
  have hP : va_P E.1 vwCl [(h0, .inr (11, [.ref tp, .ref rd, .ref se, .ref ba, .ref of, .ref pl, .ref sr, .ref sc, .int 0])), (ba, .inl (E.2 4, 6, .inr (.inr (.inr (.inr fb))))), (bo, .inr (0, [.ref sp, .ref pa, .int 0, .ref ru, .ref co, .ref tr])), (tr, .inr (4, [.ref wy, .int 0, .int 0, .int (-1), .int 0, .int 0, .int 0, .int 0, .int 0, .int 0, .int 0, .int 0, .int 0, .int 0, .int (-1), .int 0]))] H := hP
  have hD : va_D A [(h0, .inr (11, [.ref tp, .ref rd, .ref se, .ref ba, .ref of, .ref pl, .ref sr, .ref sc, .int 0])), (ba, .inl (E.2 4, 6, .inr (.inr (.inr (.inr fb))))), (bo, .inr (0, [.ref sp, .ref pa, .int 0, .ref ru, .ref co, .ref tr])), (tr, .inr (4, [.ref wy, .int 0, .int 0, .int (-1), .int 0, .int 0, .int 0, .int 0, .int 0, .int 0, .int 0, .int 0, .int 0, .int 0, .int (-1), .int 0]))] := hD
  refine lv_if_eq (tgt := 20) hx hb dX11_sail_6 (by decide) (fun c3 => ?_) (fun c3 => ?_)
  · have b4 : inR b 0 5 = false := bz hw2 c3
    refine lv_bipush (v := (-2)) hx hb dX11_sail_20 (by decide) ?_
    have hP9 := hP.sub (ws' := []) [] rfl
    have hD9 := hD.sub (ws' := []) [] (by decide) rfl
    exact W.iret (v := (-2)) hx hb hr (fun t ht hW => ⟨⟨(-2), (), rfl, (by first | (rw [b4]; done) | (rw [b4]; rfl)), by rw [ht]; exact hP9, hD9⟩, hS.F ht⟩) hS.2.2 dX11_sail_22
  · have b5 : inR b 0 5 = true := bn hw2 c3
    refine lv_iload_n hx hb dX11_sail_9 rfl (lv_at hl 2 rfl) ?_
    refine lv_iconst (v := 1) hx hb dX11_sail_10 (by decide) ?_
    refine lv_sipush (v := 400) hx hb dX11_sail_11 (by decide) ?_
    have hPc := hP.sub (ws' := []) [] rfl
    have hDc := hD.sub (ws' := []) [] (by decide) rfl
    have hFc := va_free (wc := []) hD hS hA [] rfl
    refine va_calli (va_runS (As := [.int watches, .int 1, .int 400]) (rest := []) ⟨hx, hb, hml, hown, hts⟩ (c_X11_within l E watches 1 400 H.size ) (va_cwS 3 hts gX11_sail_X11_within rfl rfl rfl (by decide +kernel) ⟨Nat.le_of_ble_eq_true rfl, Nat.le_of_ble_eq_true rfl⟩) ⟨pcW_blind, (pcW_pre hPc hkn hDc hst hS hFc)⟩ rfl rfl hl.1 rfl (lv_room (Nat.le_of_ble_eq_true rfl)) dX11_sail_14 ⟨Nat.le_of_ble_eq_true rfl, Nat.le_of_ble_eq_true rfl⟩) hS (fun q _ h => hFc q h) hFc (fun r6 u t H1 locs ht hvm hw7 hB hz1 hk1 hS => ?_)
    obtain ⟨hP1, hD1⟩ := hB
    rw [ht] at hP1
    try dsimp only at hw7
    obtain ⟨hP, hD⟩ := va_join (wr := [(h0, .inr (11, [.ref tp, .ref rd, .ref se, .ref ba, .ref of, .ref pl, .ref sr, .ref sc, .int 0])), (ba, .inl (E.2 4, 6, .inr (.inr (.inr (.inr fb))))), (bo, .inr (0, [.ref sp, .ref pa, .int 0, .ref ru, .ref co, .ref tr])), (tr, .inr (4, [.ref wy, .int 0, .int 0, .int (-1), .int 0, .int 0, .int 0, .int 0, .int 0, .int 0, .int 0, .int 0, .int 0, .int 0, .int (-1), .int 0]))]) (w1 := []) hP hD [] [0, 1, 2, 3] rfl rfl (by decide) (by decide) hk1 hFc hP1 hD1
    generalize H1 = H at hP hS ⊢
    have hP : va_P E.1 vwCl [(h0, .inr (11, [.ref tp, .ref rd, .ref se, .ref ba, .ref of, .ref pl, .ref sr, .ref sc, .int 0])), (ba, .inl (E.2 4, 6, .inr (.inr (.inr (.inr fb))))), (bo, .inr (0, [.ref sp, .ref pa, .int 0, .ref ru, .ref co, .ref tr])), (tr, .inr (4, [.ref wy, .int 0, .int 0, .int (-1), .int 0, .int 0, .int 0, .int 0, .int 0, .int 0, .int 0, .int 0, .int 0, .int 0, .int (-1), .int 0]))] H := hP
    have hD : va_D A [(h0, .inr (11, [.ref tp, .ref rd, .ref se, .ref ba, .ref of, .ref pl, .ref sr, .ref sc, .int 0])), (ba, .inl (E.2 4, 6, .inr (.inr (.inr (.inr fb))))), (bo, .inr (0, [.ref sp, .ref pa, .int 0, .ref ru, .ref co, .ref tr])), (tr, .inr (4, [.ref wy, .int 0, .int 0, .int (-1), .int 0, .int 0, .int 0, .int 0, .int 0, .int 0, .int 0, .int 0, .int 0, .int 0, .int (-1), .int 0]))] := hD
    refine lv_if_ne (tgt := 23) hx hb dX11_sail_17 (by decide) (fun c8 => ?_) (fun c8 => ?_)
    · have b9 : inR watches 1 400 = true := bn hw7 c8
      refine lv_aload_n hx hb dX11_sail_23 rfl (lv_at hl 0 rfl) ?_
      refine va_get (D := E.1) (ci := 11) (v := .ref ba) (C := RX11) (T := TX11) (N := 9) hx hb hts inX11 hown hK hP 0 rfl rfl 3 (by decide) fl34 (fun _ h9 => h9) rfl dX11_sail_24 ?_
      refine lv_iload_n hx hb dX11_sail_27 rfl (lv_at hl 1 rfl) ?_
      have hi10 : vp_in b 6 := inR_in (by decide) b5
      refine va_aldq hx hb hK hP 1 4 rfl rfl hi10 dX11_sail_28 ?_
      rw [show va_rf (fb b.toNatClampNeg) = .ref bo from by rw [hfb b5]; rfl]
      refine va_get (D := E.1) (ci := 0) (v := .ref tr) (C := RX0) (T := TX0) (N := 6) hx hb hts inX0 hown hK hP 2 rfl rfl 5 (by decide) fl144 (fun _ h9 => h9) rfl dX11_sail_29 ?_
      refine lv_astore_n (lv' := [(3, .ref tr), (0, .ref h0), (1, .int b), (2, .int watches)]) hx hb dX11_sail_32 rfl hl (by decide) rfl (fun ls hl => ?_)
      refine lv_aload_n hx hb dX11_sail_33 rfl (lv_at hl 0 rfl) ?_
      refine va_get (D := E.1) (ci := 4) (v := .int (-1)) (C := RX4) (T := TX4) (N := 16) hx hb hts inX4 hown hK hP 3 rfl rfl 3 (by decide) fl148 (fun _ h9 => h9) rfl dX11_sail_34 ?_
      refine lv_if_ne (tgt := 47) hx hb dX11_sail_37 (by decide) (fun _ => ?_) (fun c9 => absurd c9 (by decide))
      refine lv_bipush (v := (-4)) hx hb dX11_sail_47 (by decide) ?_
      have hP9 := hP.sub (ws' := []) [] rfl
      have hD9 := hD.sub (ws' := []) [] (by decide) rfl
      exact W.iret (v := (-4)) hx hb hr (fun t ht hW => ⟨⟨(-4), (), rfl, (by first | (rw [b5, b9]; done) | (rw [b5, b9]; rfl)), by rw [ht]; exact hP9, hD9⟩, hS.F ht⟩) hS.2.2 dX11_sail_49
    · have b11 : inR watches 1 400 = false := bz hw7 c8
      refine lv_bipush (v := (-2)) hx hb dX11_sail_20 (by decide) ?_
      have hP9 := hP.sub (ws' := []) [] rfl
      have hD9 := hD.sub (ws' := []) [] (by decide) rfl
      exact W.iret (v := (-2)) hx hb hr (fun t ht hW => ⟨⟨(-2), (), rfl, (by first | (rw [b5, b11]; done) | (rw [b5, b11]; rfl)), by rw [ht]; exact hP9, hD9⟩, hS.F ht⟩) hS.2.2 dX11_sail_22
set_option maxHeartbeats 4000000 in
set_option maxRecDepth 100000 in
theorem c_X11_passage (l : Launch) (E : vE) (h0 : Nat) (tp : Nat) (rd : Nat) (se : Nat) (ba : Nat) (of : Nat) (pl : Nat) (sr : Nat) (sc : Nat) (bo : Nat) (sp : Nat) (pa : Nat) (ru : Nat) (co : Nat) (tr : Nat) (fb : Nat → Option Nat) (wy : Nat) (b : Int32) (what : Int32) (sz : Nat) (hfb : inR b 0 5 = true → fb b.toNatClampNeg = some bo) : Met l yX11_passage wsX11_passage ({ frames := 2, cells := 0, slots := 0, locals := 40 }) (pcW E [.ref h0, .int b, .int what] sz [(h0, .inr (11, [.ref tp, .ref rd, .ref se, .ref ba, .ref of, .ref pl, .ref sr, .ref sc, .int 0])), (ba, .inl (E.2 4, 6, .inr (.inr (.inr (.inr fb))))), (bo, .inr (0, [.ref sp, .ref pa, .int 0, .ref ru, .ref co, .ref tr])), (tr, .inr (4, [.ref wy, .int 0, .int 0, .int (-1), .int 0, .int 0, .int 0, .int 0, .int 0, .int 0, .int 0, .int 0, .int 0, .int 0, .int (-1), .int 0]))]) (va_Qi (fun (r : Int32) (_ : Unit) => r = -9) (fun (_ : Unit) (t : State) => wB E (va_A [(h0, .inr (11, [.ref tp, .ref rd, .ref se, .ref ba, .ref of, .ref pl, .ref sr, .ref sc, .int 0])), (ba, .inl (E.2 4, 6, .inr (.inr (.inr (.inr fb))))), (bo, .inr (0, [.ref sp, .ref pa, .int 0, .ref ru, .ref co, .ref tr])), (tr, .inr (4, [.ref wy, .int 0, .int 0, .int (-1), .int 0, .int 0, .int 0, .int 0, .int 0, .int 0, .int 0, .int 0, .int 0, .int 0, .int (-1), .int 0]))] sz) [] t) (va_A [(h0, .inr (11, [.ref tp, .ref rd, .ref se, .ref ba, .ref of, .ref pl, .ref sr, .ref sc, .int 0])), (ba, .inl (E.2 4, 6, .inr (.inr (.inr (.inr fb))))), (bo, .inr (0, [.ref sp, .ref pa, .int 0, .ref ru, .ref co, .ref tr])), (tr, .inr (4, [.ref wy, .int 0, .int 0, .int (-1), .int 0, .int 0, .int 0, .int 0, .int 0, .int 0, .int 0, .int 0, .int 0, .int 0, .int (-1), .int 0]))] sz)) 0 0 (va_A [(h0, .inr (11, [.ref tp, .ref rd, .ref se, .ref ba, .ref of, .ref pl, .ref sr, .ref sc, .int 0])), (ba, .inl (E.2 4, 6, .inr (.inr (.inr (.inr fb))))), (bo, .inr (0, [.ref sp, .ref pa, .int 0, .ref ru, .ref co, .ref tr])), (tr, .inr (4, [.ref wy, .int 0, .int 0, .int (-1), .int 0, .int 0, .int 0, .int 0, .int 0, .int 0, .int 0, .int 0, .int 0, .int 0, .int (-1), .int 0]))] sz) := by
  refine Met.ofW (cc := cX11_passage) (maxL := 3) (ret := (some .int)) (by decide) rfl ?_
  intro p e s m args below meth c s₁ B hml hv
  obtain ⟨rfl, hsz, hP, hkn, hD0, hst⟩ := hv
  have hx := B.exec
  have hb := B.bytes
  have hr := B.returns
  have hts := atoms_spec (ws := wsX11_passage) B.pre
  have hown : s.vm.findClass RX11 = some m.cls := findClass_of_methodNamed B.named
  have hlocks := B.notSynchronized
  subst hsz
  have hD := hD0.self (sz := s.heap.size)
  have hK := hkn.1
  have hAO := hkn.2.2
  generalize hAe : va_A [(h0, .inr (11, [.ref tp, .ref rd, .ref se, .ref ba, .ref of, .ref pl, .ref sr, .ref sc, .int 0])), (ba, .inl (E.2 4, 6, .inr (.inr (.inr (.inr fb))))), (bo, .inr (0, [.ref sp, .ref pa, .int 0, .ref ru, .ref co, .ref tr])), (tr, .inr (4, [.ref wy, .int 0, .int 0, .int (-1), .int 0, .int 0, .int 0, .int 0, .int 0, .int 0, .int 0, .int 0, .int 0, .int 0, .int (-1), .int 0]))] s.heap.size = A at hD hst ⊢
  have hA : ∀ q : Nat, s.heap.size ≤ q → A q := fun q h => by rw [← hAe]; exact Or.inr h
  have hS : va_S A s.heap s.heap [] := va_S.rf
  have hP : va_P E.1 vwCl [(h0, .inr (11, [.ref tp, .ref rd, .ref se, .ref ba, .ref of, .ref pl, .ref sr, .ref sc, .int 0])), (ba, .inl (E.2 4, 6, .inr (.inr (.inr (.inr fb))))), (bo, .inr (0, [.ref sp, .ref pa, .int 0, .ref ru, .ref co, .ref tr])), (tr, .inr (4, [.ref wy, .int 0, .int 0, .int (-1), .int 0, .int 0, .int 0, .int 0, .int 0, .int 0, .int 0, .int 0, .int 0, .int 0, .int (-1), .int 0]))] s.heap := hP
  have hl := lv_entry ([.ref h0, .int b, .int what]) (n := 3) (Nat.le_of_ble_eq_true rfl)
  rw [lg_entry_eq]
  generalize (lg_sl ([.ref h0, .int b, .int what]) ++ List.replicate (3 - (lg_sl ([.ref h0, .int b, .int what])).length) Slot.unset).toArray = ls at hl ⊢
  have hl : lv_has ls 3 [(0, .ref h0), (1, .int b), (2, .int what)] := hl
  have fl34 := hts (.fieldLink RX11 34 "BoatsHome" "boats" "[LBoatsHome$Boat;") (by decide +kernel)
  have fl144 := hts (.fieldLink RX11 144 "BoatsHome$Boat" "trip" "LBoatsHome$Passage;") (by decide +kernel)
  have fl148 := hts (.fieldLink RX11 148 "BoatsHome$Passage" "state" "I") (by decide +kernel)
  have inX0 : ∀ w ∈ u_ws RX0 TX0 6, w ∈ wsX11_passage := by decide +kernel
  have inX11 : ∀ w ∈ u_ws RX11 TX11 9, w ∈ wsX11_passage := by decide +kernel
  have inX4 : ∀ w ∈ u_ws RX4 TX4 16, w ∈ wsX11_passage := by decide +kernel
  refine lv_iload_n hx hb dX11_passage_0 rfl (lv_at hl 1 rfl) ?_
  refine lv_bipush (v := 6) hx hb dX11_passage_1 (by decide) ?_
  have hPc := hP.sub (ws' := []) [] rfl
  have hDc := hD.sub (ws' := []) [] (by decide) rfl
  have hFc := va_free (wc := []) hD hS hA [] rfl
  refine va_calli (va_runS (As := [.int b, .int 6]) (rest := []) ⟨hx, hb, hml, hown, hts⟩ (c_X11_below l E b 6 5 s.heap.size (lt_le (by decide))) (va_cwS 2 hts gX11_passage_X11_below rfl rfl rfl (by decide +kernel) ⟨Nat.le_of_ble_eq_true rfl, Nat.le_of_ble_eq_true rfl⟩) ⟨pcW_blind, (pcW_pre hPc hkn hDc hst hS hFc)⟩ rfl rfl hl.1 rfl (lv_room (Nat.le_of_ble_eq_true rfl)) dX11_passage_3 ⟨Nat.le_of_ble_eq_true rfl, Nat.le_of_ble_eq_true rfl⟩) hS (fun q _ h => hFc q h) hFc (fun r1 u t H1 locs ht hvm hw2 hB hz1 hk1 hS => ?_)
  obtain ⟨hP1, hD1⟩ := hB
  rw [ht] at hP1
  try dsimp only at hw2
  obtain ⟨hP, hD⟩ := va_join (wr := [(h0, .inr (11, [.ref tp, .ref rd, .ref se, .ref ba, .ref of, .ref pl, .ref sr, .ref sc, .int 0])), (ba, .inl (E.2 4, 6, .inr (.inr (.inr (.inr fb))))), (bo, .inr (0, [.ref sp, .ref pa, .int 0, .ref ru, .ref co, .ref tr])), (tr, .inr (4, [.ref wy, .int 0, .int 0, .int (-1), .int 0, .int 0, .int 0, .int 0, .int 0, .int 0, .int 0, .int 0, .int 0, .int 0, .int (-1), .int 0]))]) (w1 := []) hP hD [] [0, 1, 2, 3] rfl rfl (by decide) (by decide) hk1 hFc hP1 hD1
  generalize H1 = H at hP hS ⊢
  have hP : va_P E.1 vwCl [(h0, .inr (11, [.ref tp, .ref rd, .ref se, .ref ba, .ref of, .ref pl, .ref sr, .ref sc, .int 0])), (ba, .inl (E.2 4, 6, .inr (.inr (.inr (.inr fb))))), (bo, .inr (0, [.ref sp, .ref pa, .int 0, .ref ru, .ref co, .ref tr])), (tr, .inr (4, [.ref wy, .int 0, .int 0, .int (-1), .int 0, .int 0, .int 0, .int 0, .int 0, .int 0, .int 0, .int 0, .int 0, .int 0, .int (-1), .int 0]))] H := hP
  have hD : va_D A [(h0, .inr (11, [.ref tp, .ref rd, .ref se, .ref ba, .ref of, .ref pl, .ref sr, .ref sc, .int 0])), (ba, .inl (E.2 4, 6, .inr (.inr (.inr (.inr fb))))), (bo, .inr (0, [.ref sp, .ref pa, .int 0, .ref ru, .ref co, .ref tr])), (tr, .inr (4, [.ref wy, .int 0, .int 0, .int (-1), .int 0, .int 0, .int 0, .int 0, .int 0, .int 0, .int 0, .int 0, .int 0, .int 0, .int (-1), .int 0]))] := hD
  refine lv_if_eq (tgt := 25) hx hb dX11_passage_6 (by decide) (fun c3 => ?_) (fun c3 => ?_)
  · have b4 : inR b 0 5 = false := bz hw2 c3
    refine lv_bipush (v := (-9)) hx hb dX11_passage_25 (by decide) ?_
    have hP9 := hP.sub (ws' := []) [] rfl
    have hD9 := hD.sub (ws' := []) [] (by decide) rfl
    exact W.iret (v := (-9)) hx hb hr (fun t ht hW => ⟨⟨(-9), (), rfl, rfl, by rw [ht]; exact hP9, hD9⟩, hS.F ht⟩) hS.2.2 dX11_passage_27
  · have b5 : inR b 0 5 = true := bn hw2 c3
    refine lv_aload_n hx hb dX11_passage_9 rfl (lv_at hl 0 rfl) ?_
    refine va_get (D := E.1) (ci := 11) (v := .ref ba) (C := RX11) (T := TX11) (N := 9) hx hb hts inX11 hown hK hP 0 rfl rfl 3 (by decide) fl34 (fun _ h9 => h9) rfl dX11_passage_10 ?_
    refine lv_iload_n hx hb dX11_passage_13 rfl (lv_at hl 1 rfl) ?_
    have hi6 : vp_in b 6 := inR_in (by decide) b5
    refine va_aldq hx hb hK hP 1 4 rfl rfl hi6 dX11_passage_14 ?_
    rw [show va_rf (fb b.toNatClampNeg) = .ref bo from by rw [hfb b5]; rfl]
    refine va_get (D := E.1) (ci := 0) (v := .ref tr) (C := RX0) (T := TX0) (N := 6) hx hb hts inX0 hown hK hP 2 rfl rfl 5 (by decide) fl144 (fun _ h9 => h9) rfl dX11_passage_15 ?_
    refine va_get (D := E.1) (ci := 4) (v := .int (-1)) (C := RX4) (T := TX4) (N := 16) hx hb hts inX4 hown hK hP 3 rfl rfl 3 (by decide) fl148 (fun _ h9 => h9) rfl dX11_passage_18 ?_
    refine lv_iconst (v := (-1)) hx hb dX11_passage_21 (by decide) ?_
    refine lv_icmp_ne (tgt := 28) hx hb dX11_passage_22 (by decide) (fun c9 => absurd c9 (by decide)) (fun _ => ?_)
    refine lv_bipush (v := (-9)) hx hb dX11_passage_25 (by decide) ?_
    have hP9 := hP.sub (ws' := []) [] rfl
    have hD9 := hD.sub (ws' := []) [] (by decide) rfl
    exact W.iret (v := (-9)) hx hb hr (fun t ht hW => ⟨⟨(-9), (), rfl, rfl, by rw [ht]; exact hP9, hD9⟩, hS.F ht⟩) hS.2.2 dX11_passage_27
set_option maxHeartbeats 4000000 in
set_option maxRecDepth 100000 in
theorem c_X11_pay (l : Launch) (E : vE) (h0 : Nat) (tp : Nat) (rd : Nat) (se : Nat) (ba : Nat) (of : Nat) (pl : Nat) (sr : Nat) (sc : Nat) (bo : Nat) (sp : Nat) (pa : Nat) (ru : Nat) (co : Nat) (tr : Nat) (fb : Nat → Option Nat) (wy : Nat) (b : Int32) (kind : Int32) (sum : Int32) (less : Int32) (more : Int32) (sz : Nat) (hfb : inR b 0 5 = true → fb b.toNatClampNeg = some bo) : Met l yX11_pay wsX11_pay ({ frames := 2, cells := 0, slots := 0, locals := 40 }) (pcW E [.ref h0, .int b, .int kind, .int sum, .int less, .int more] sz [(h0, .inr (11, [.ref tp, .ref rd, .ref se, .ref ba, .ref of, .ref pl, .ref sr, .ref sc, .int 0])), (ba, .inl (E.2 4, 6, .inr (.inr (.inr (.inr fb))))), (bo, .inr (0, [.ref sp, .ref pa, .int 0, .ref ru, .ref co, .ref tr])), (tr, .inr (4, [.ref wy, .int 0, .int 0, .int (-1), .int 0, .int 0, .int 0, .int 0, .int 0, .int 0, .int 0, .int 0, .int 0, .int 0, .int (-1), .int 0]))]) (va_Qi (fun (r : Int32) (_ : Unit) => r = cond (inR b 0 5 && inR kind 0 1 && inR sum 0 100000 && inR less 0 1000 && inR more 0 1000) (-2000000001) (-2000000000)) (fun (_ : Unit) (t : State) => wB E (va_A [(h0, .inr (11, [.ref tp, .ref rd, .ref se, .ref ba, .ref of, .ref pl, .ref sr, .ref sc, .int 0])), (ba, .inl (E.2 4, 6, .inr (.inr (.inr (.inr fb))))), (bo, .inr (0, [.ref sp, .ref pa, .int 0, .ref ru, .ref co, .ref tr])), (tr, .inr (4, [.ref wy, .int 0, .int 0, .int (-1), .int 0, .int 0, .int 0, .int 0, .int 0, .int 0, .int 0, .int 0, .int 0, .int 0, .int (-1), .int 0]))] sz) [] t) (va_A [(h0, .inr (11, [.ref tp, .ref rd, .ref se, .ref ba, .ref of, .ref pl, .ref sr, .ref sc, .int 0])), (ba, .inl (E.2 4, 6, .inr (.inr (.inr (.inr fb))))), (bo, .inr (0, [.ref sp, .ref pa, .int 0, .ref ru, .ref co, .ref tr])), (tr, .inr (4, [.ref wy, .int 0, .int 0, .int (-1), .int 0, .int 0, .int 0, .int 0, .int 0, .int 0, .int 0, .int 0, .int 0, .int 0, .int (-1), .int 0]))] sz)) 0 0 (va_A [(h0, .inr (11, [.ref tp, .ref rd, .ref se, .ref ba, .ref of, .ref pl, .ref sr, .ref sc, .int 0])), (ba, .inl (E.2 4, 6, .inr (.inr (.inr (.inr fb))))), (bo, .inr (0, [.ref sp, .ref pa, .int 0, .ref ru, .ref co, .ref tr])), (tr, .inr (4, [.ref wy, .int 0, .int 0, .int (-1), .int 0, .int 0, .int 0, .int 0, .int 0, .int 0, .int 0, .int 0, .int 0, .int 0, .int (-1), .int 0]))] sz) := by
  refine Met.ofW (cc := cX11_pay) (maxL := 8) (ret := (some .int)) (by decide) rfl ?_
  intro p e s m args below meth c s₁ B hml hv
  obtain ⟨rfl, hsz, hP, hkn, hD0, hst⟩ := hv
  have hx := B.exec
  have hb := B.bytes
  have hr := B.returns
  have hts := atoms_spec (ws := wsX11_pay) B.pre
  have hown : s.vm.findClass RX11 = some m.cls := findClass_of_methodNamed B.named
  have hlocks := B.notSynchronized
  subst hsz
  have hD := hD0.self (sz := s.heap.size)
  have hK := hkn.1
  have hAO := hkn.2.2
  generalize hAe : va_A [(h0, .inr (11, [.ref tp, .ref rd, .ref se, .ref ba, .ref of, .ref pl, .ref sr, .ref sc, .int 0])), (ba, .inl (E.2 4, 6, .inr (.inr (.inr (.inr fb))))), (bo, .inr (0, [.ref sp, .ref pa, .int 0, .ref ru, .ref co, .ref tr])), (tr, .inr (4, [.ref wy, .int 0, .int 0, .int (-1), .int 0, .int 0, .int 0, .int 0, .int 0, .int 0, .int 0, .int 0, .int 0, .int 0, .int (-1), .int 0]))] s.heap.size = A at hD hst ⊢
  have hA : ∀ q : Nat, s.heap.size ≤ q → A q := fun q h => by rw [← hAe]; exact Or.inr h
  have hS : va_S A s.heap s.heap [] := va_S.rf
  have hP : va_P E.1 vwCl [(h0, .inr (11, [.ref tp, .ref rd, .ref se, .ref ba, .ref of, .ref pl, .ref sr, .ref sc, .int 0])), (ba, .inl (E.2 4, 6, .inr (.inr (.inr (.inr fb))))), (bo, .inr (0, [.ref sp, .ref pa, .int 0, .ref ru, .ref co, .ref tr])), (tr, .inr (4, [.ref wy, .int 0, .int 0, .int (-1), .int 0, .int 0, .int 0, .int 0, .int 0, .int 0, .int 0, .int 0, .int 0, .int 0, .int (-1), .int 0]))] s.heap := hP
  have hl := lv_entry ([.ref h0, .int b, .int kind, .int sum, .int less, .int more]) (n := 8) (Nat.le_of_ble_eq_true rfl)
  rw [lg_entry_eq]
  generalize (lg_sl ([.ref h0, .int b, .int kind, .int sum, .int less, .int more]) ++ List.replicate (8 - (lg_sl ([.ref h0, .int b, .int kind, .int sum, .int less, .int more])).length) Slot.unset).toArray = ls at hl ⊢
  have hl : lv_has ls 8 [(0, .ref h0), (1, .int b), (2, .int kind), (3, .int sum), (4, .int less), (5, .int more)] := hl
  have fl34 := hts (.fieldLink RX11 34 "BoatsHome" "boats" "[LBoatsHome$Boat;") (by decide +kernel)
  have fl144 := hts (.fieldLink RX11 144 "BoatsHome$Boat" "trip" "LBoatsHome$Passage;") (by decide +kernel)
  have fl148 := hts (.fieldLink RX11 148 "BoatsHome$Passage" "state" "I") (by decide +kernel)
  have fl191 := hts (.fieldLink RX11 191 "BoatsHome$Passage" "uncovered" "I") (by decide +kernel)
  have fl194 := hts (.fieldLink RX11 194 "BoatsHome$Passage" "dry" "I") (by decide +kernel)
  have inX0 : ∀ w ∈ u_ws RX0 TX0 6, w ∈ wsX11_pay := by decide +kernel
  have inX11 : ∀ w ∈ u_ws RX11 TX11 9, w ∈ wsX11_pay := by decide +kernel
  have inX4 : ∀ w ∈ u_ws RX4 TX4 16, w ∈ wsX11_pay := by decide +kernel
  refine lv_iload_n hx hb dX11_pay_0 rfl (lv_at hl 1 rfl) ?_
  refine lv_bipush (v := 6) hx hb dX11_pay_1 (by decide) ?_
  have hPc := hP.sub (ws' := []) [] rfl
  have hDc := hD.sub (ws' := []) [] (by decide) rfl
  have hFc := va_free (wc := []) hD hS hA [] rfl
  refine va_calli (va_runS (As := [.int b, .int 6]) (rest := []) ⟨hx, hb, hml, hown, hts⟩ (c_X11_below l E b 6 5 s.heap.size (lt_le (by decide))) (va_cwS 2 hts gX11_pay_X11_below rfl rfl rfl (by decide +kernel) ⟨Nat.le_of_ble_eq_true rfl, Nat.le_of_ble_eq_true rfl⟩) ⟨pcW_blind, (pcW_pre hPc hkn hDc hst hS hFc)⟩ rfl rfl hl.1 rfl (lv_room (Nat.le_of_ble_eq_true rfl)) dX11_pay_3 ⟨Nat.le_of_ble_eq_true rfl, Nat.le_of_ble_eq_true rfl⟩) hS (fun q _ h => hFc q h) hFc (fun r1 u t H1 locs ht hvm hw2 hB hz1 hk1 hS => ?_)
  obtain ⟨hP1, hD1⟩ := hB
  rw [ht] at hP1
  try dsimp only at hw2
  obtain ⟨hP, hD⟩ := va_join (wr := [(h0, .inr (11, [.ref tp, .ref rd, .ref se, .ref ba, .ref of, .ref pl, .ref sr, .ref sc, .int 0])), (ba, .inl (E.2 4, 6, .inr (.inr (.inr (.inr fb))))), (bo, .inr (0, [.ref sp, .ref pa, .int 0, .ref ru, .ref co, .ref tr])), (tr, .inr (4, [.ref wy, .int 0, .int 0, .int (-1), .int 0, .int 0, .int 0, .int 0, .int 0, .int 0, .int 0, .int 0, .int 0, .int 0, .int (-1), .int 0]))]) (w1 := []) hP hD [] [0, 1, 2, 3] rfl rfl (by decide) (by decide) hk1 hFc hP1 hD1
  generalize H1 = H at hP hS ⊢
  have hP : va_P E.1 vwCl [(h0, .inr (11, [.ref tp, .ref rd, .ref se, .ref ba, .ref of, .ref pl, .ref sr, .ref sc, .int 0])), (ba, .inl (E.2 4, 6, .inr (.inr (.inr (.inr fb))))), (bo, .inr (0, [.ref sp, .ref pa, .int 0, .ref ru, .ref co, .ref tr])), (tr, .inr (4, [.ref wy, .int 0, .int 0, .int (-1), .int 0, .int 0, .int 0, .int 0, .int 0, .int 0, .int 0, .int 0, .int 0, .int 0, .int (-1), .int 0]))] H := hP
  have hD : va_D A [(h0, .inr (11, [.ref tp, .ref rd, .ref se, .ref ba, .ref of, .ref pl, .ref sr, .ref sc, .int 0])), (ba, .inl (E.2 4, 6, .inr (.inr (.inr (.inr fb))))), (bo, .inr (0, [.ref sp, .ref pa, .int 0, .ref ru, .ref co, .ref tr])), (tr, .inr (4, [.ref wy, .int 0, .int 0, .int (-1), .int 0, .int 0, .int 0, .int 0, .int 0, .int 0, .int 0, .int 0, .int 0, .int 0, .int (-1), .int 0]))] := hD
  refine lv_if_eq (tgt := 52) hx hb dX11_pay_6 (by decide) (fun c3 => ?_) (fun c3 => ?_)
  · have b4 : inR b 0 5 = false := bz hw2 c3
    refine lv_ldc (v := (-2000000000)) hx hb hown (hts (.constant RX11 182 (-2000000000)) (by decide +kernel)) dX11_pay_52 ?_
    have hP9 := hP.sub (ws' := []) [] rfl
    have hD9 := hD.sub (ws' := []) [] (by decide) rfl
    exact W.iret (v := (-2000000000)) hx hb hr (fun t ht hW => ⟨⟨(-2000000000), (), rfl, (by first | (rw [b4]; done) | (rw [b4]; rfl)), by rw [ht]; exact hP9, hD9⟩, hS.F ht⟩) hS.2.2 dX11_pay_54
  · have b5 : inR b 0 5 = true := bn hw2 c3
    refine lv_iload_n hx hb dX11_pay_9 rfl (lv_at hl 2 rfl) ?_
    refine lv_iconst (v := 0) hx hb dX11_pay_10 (by decide) ?_
    refine lv_iconst (v := 1) hx hb dX11_pay_11 (by decide) ?_
    have hPc := hP.sub (ws' := []) [] rfl
    have hDc := hD.sub (ws' := []) [] (by decide) rfl
    have hFc := va_free (wc := []) hD hS hA [] rfl
    refine va_calli (va_runS (As := [.int kind, .int 0, .int 1]) (rest := []) ⟨hx, hb, hml, hown, hts⟩ (c_X11_within l E kind 0 1 H.size ) (va_cwS 3 hts gX11_pay_X11_within rfl rfl rfl (by decide +kernel) ⟨Nat.le_of_ble_eq_true rfl, Nat.le_of_ble_eq_true rfl⟩) ⟨pcW_blind, (pcW_pre hPc hkn hDc hst hS hFc)⟩ rfl rfl hl.1 rfl (lv_room (Nat.le_of_ble_eq_true rfl)) dX11_pay_12 ⟨Nat.le_of_ble_eq_true rfl, Nat.le_of_ble_eq_true rfl⟩) hS (fun q _ h => hFc q h) hFc (fun r6 u t H1 locs ht hvm hw7 hB hz1 hk1 hS => ?_)
    obtain ⟨hP1, hD1⟩ := hB
    rw [ht] at hP1
    try dsimp only at hw7
    obtain ⟨hP, hD⟩ := va_join (wr := [(h0, .inr (11, [.ref tp, .ref rd, .ref se, .ref ba, .ref of, .ref pl, .ref sr, .ref sc, .int 0])), (ba, .inl (E.2 4, 6, .inr (.inr (.inr (.inr fb))))), (bo, .inr (0, [.ref sp, .ref pa, .int 0, .ref ru, .ref co, .ref tr])), (tr, .inr (4, [.ref wy, .int 0, .int 0, .int (-1), .int 0, .int 0, .int 0, .int 0, .int 0, .int 0, .int 0, .int 0, .int 0, .int 0, .int (-1), .int 0]))]) (w1 := []) hP hD [] [0, 1, 2, 3] rfl rfl (by decide) (by decide) hk1 hFc hP1 hD1
    generalize H1 = H at hP hS ⊢
    have hP : va_P E.1 vwCl [(h0, .inr (11, [.ref tp, .ref rd, .ref se, .ref ba, .ref of, .ref pl, .ref sr, .ref sc, .int 0])), (ba, .inl (E.2 4, 6, .inr (.inr (.inr (.inr fb))))), (bo, .inr (0, [.ref sp, .ref pa, .int 0, .ref ru, .ref co, .ref tr])), (tr, .inr (4, [.ref wy, .int 0, .int 0, .int (-1), .int 0, .int 0, .int 0, .int 0, .int 0, .int 0, .int 0, .int 0, .int 0, .int 0, .int (-1), .int 0]))] H := hP
    have hD : va_D A [(h0, .inr (11, [.ref tp, .ref rd, .ref se, .ref ba, .ref of, .ref pl, .ref sr, .ref sc, .int 0])), (ba, .inl (E.2 4, 6, .inr (.inr (.inr (.inr fb))))), (bo, .inr (0, [.ref sp, .ref pa, .int 0, .ref ru, .ref co, .ref tr])), (tr, .inr (4, [.ref wy, .int 0, .int 0, .int (-1), .int 0, .int 0, .int 0, .int 0, .int 0, .int 0, .int 0, .int 0, .int 0, .int 0, .int (-1), .int 0]))] := hD
    refine lv_if_eq (tgt := 52) hx hb dX11_pay_15 (by decide) (fun c8 => ?_) (fun c8 => ?_)
    · have b9 : inR kind 0 1 = false := bz hw7 c8
      refine lv_ldc (v := (-2000000000)) hx hb hown (hts (.constant RX11 182 (-2000000000)) (by decide +kernel)) dX11_pay_52 ?_
      have hP9 := hP.sub (ws' := []) [] rfl
      have hD9 := hD.sub (ws' := []) [] (by decide) rfl
      exact W.iret (v := (-2000000000)) hx hb hr (fun t ht hW => ⟨⟨(-2000000000), (), rfl, (by first | (rw [b5, b9]; done) | (rw [b5, b9]; rfl)), by rw [ht]; exact hP9, hD9⟩, hS.F ht⟩) hS.2.2 dX11_pay_54
    · have b10 : inR kind 0 1 = true := bn hw7 c8
      refine lv_iload_n hx hb dX11_pay_18 rfl (lv_at hl 3 rfl) ?_
      refine lv_iconst (v := 0) hx hb dX11_pay_19 (by decide) ?_
      refine lv_ldc (v := 100000) hx hb hown (hts (.constant RX11 181 100000) (by decide +kernel)) dX11_pay_20 ?_
      have hPc := hP.sub (ws' := []) [] rfl
      have hDc := hD.sub (ws' := []) [] (by decide) rfl
      have hFc := va_free (wc := []) hD hS hA [] rfl
      refine va_calli (va_runS (As := [.int sum, .int 0, .int 100000]) (rest := []) ⟨hx, hb, hml, hown, hts⟩ (c_X11_within l E sum 0 100000 H.size ) (va_cwS 3 hts gX11_pay_X11_within rfl rfl rfl (by decide +kernel) ⟨Nat.le_of_ble_eq_true rfl, Nat.le_of_ble_eq_true rfl⟩) ⟨pcW_blind, (pcW_pre hPc hkn hDc hst hS hFc)⟩ rfl rfl hl.1 rfl (lv_room (Nat.le_of_ble_eq_true rfl)) dX11_pay_22 ⟨Nat.le_of_ble_eq_true rfl, Nat.le_of_ble_eq_true rfl⟩) hS (fun q _ h => hFc q h) hFc (fun r11 u t H1 locs ht hvm hw12 hB hz1 hk1 hS => ?_)
      obtain ⟨hP1, hD1⟩ := hB
      rw [ht] at hP1
      try dsimp only at hw12
      obtain ⟨hP, hD⟩ := va_join (wr := [(h0, .inr (11, [.ref tp, .ref rd, .ref se, .ref ba, .ref of, .ref pl, .ref sr, .ref sc, .int 0])), (ba, .inl (E.2 4, 6, .inr (.inr (.inr (.inr fb))))), (bo, .inr (0, [.ref sp, .ref pa, .int 0, .ref ru, .ref co, .ref tr])), (tr, .inr (4, [.ref wy, .int 0, .int 0, .int (-1), .int 0, .int 0, .int 0, .int 0, .int 0, .int 0, .int 0, .int 0, .int 0, .int 0, .int (-1), .int 0]))]) (w1 := []) hP hD [] [0, 1, 2, 3] rfl rfl (by decide) (by decide) hk1 hFc hP1 hD1
      generalize H1 = H at hP hS ⊢
      have hP : va_P E.1 vwCl [(h0, .inr (11, [.ref tp, .ref rd, .ref se, .ref ba, .ref of, .ref pl, .ref sr, .ref sc, .int 0])), (ba, .inl (E.2 4, 6, .inr (.inr (.inr (.inr fb))))), (bo, .inr (0, [.ref sp, .ref pa, .int 0, .ref ru, .ref co, .ref tr])), (tr, .inr (4, [.ref wy, .int 0, .int 0, .int (-1), .int 0, .int 0, .int 0, .int 0, .int 0, .int 0, .int 0, .int 0, .int 0, .int 0, .int (-1), .int 0]))] H := hP
      have hD : va_D A [(h0, .inr (11, [.ref tp, .ref rd, .ref se, .ref ba, .ref of, .ref pl, .ref sr, .ref sc, .int 0])), (ba, .inl (E.2 4, 6, .inr (.inr (.inr (.inr fb))))), (bo, .inr (0, [.ref sp, .ref pa, .int 0, .ref ru, .ref co, .ref tr])), (tr, .inr (4, [.ref wy, .int 0, .int 0, .int (-1), .int 0, .int 0, .int 0, .int 0, .int 0, .int 0, .int 0, .int 0, .int 0, .int 0, .int (-1), .int 0]))] := hD
      refine lv_if_eq (tgt := 52) hx hb dX11_pay_25 (by decide) (fun c13 => ?_) (fun c13 => ?_)
      · have b14 : inR sum 0 100000 = false := bz hw12 c13
        refine lv_ldc (v := (-2000000000)) hx hb hown (hts (.constant RX11 182 (-2000000000)) (by decide +kernel)) dX11_pay_52 ?_
        have hP9 := hP.sub (ws' := []) [] rfl
        have hD9 := hD.sub (ws' := []) [] (by decide) rfl
        exact W.iret (v := (-2000000000)) hx hb hr (fun t ht hW => ⟨⟨(-2000000000), (), rfl, (by first | (rw [b5, b10, b14]; done) | (rw [b5, b10, b14]; rfl)), by rw [ht]; exact hP9, hD9⟩, hS.F ht⟩) hS.2.2 dX11_pay_54
      · have b15 : inR sum 0 100000 = true := bn hw12 c13
        refine lv_iload hx hb dX11_pay_28 (lv_at hl 4 rfl) ?_
        refine lv_iconst (v := 0) hx hb dX11_pay_30 (by decide) ?_
        refine lv_sipush (v := 1000) hx hb dX11_pay_31 (by decide) ?_
        have hPc := hP.sub (ws' := []) [] rfl
        have hDc := hD.sub (ws' := []) [] (by decide) rfl
        have hFc := va_free (wc := []) hD hS hA [] rfl
        refine va_calli (va_runS (As := [.int less, .int 0, .int 1000]) (rest := []) ⟨hx, hb, hml, hown, hts⟩ (c_X11_within l E less 0 1000 H.size ) (va_cwS 3 hts gX11_pay_X11_within rfl rfl rfl (by decide +kernel) ⟨Nat.le_of_ble_eq_true rfl, Nat.le_of_ble_eq_true rfl⟩) ⟨pcW_blind, (pcW_pre hPc hkn hDc hst hS hFc)⟩ rfl rfl hl.1 rfl (lv_room (Nat.le_of_ble_eq_true rfl)) dX11_pay_34 ⟨Nat.le_of_ble_eq_true rfl, Nat.le_of_ble_eq_true rfl⟩) hS (fun q _ h => hFc q h) hFc (fun r16 u t H1 locs ht hvm hw17 hB hz1 hk1 hS => ?_)
        obtain ⟨hP1, hD1⟩ := hB
        rw [ht] at hP1
        try dsimp only at hw17
        obtain ⟨hP, hD⟩ := va_join (wr := [(h0, .inr (11, [.ref tp, .ref rd, .ref se, .ref ba, .ref of, .ref pl, .ref sr, .ref sc, .int 0])), (ba, .inl (E.2 4, 6, .inr (.inr (.inr (.inr fb))))), (bo, .inr (0, [.ref sp, .ref pa, .int 0, .ref ru, .ref co, .ref tr])), (tr, .inr (4, [.ref wy, .int 0, .int 0, .int (-1), .int 0, .int 0, .int 0, .int 0, .int 0, .int 0, .int 0, .int 0, .int 0, .int 0, .int (-1), .int 0]))]) (w1 := []) hP hD [] [0, 1, 2, 3] rfl rfl (by decide) (by decide) hk1 hFc hP1 hD1
        generalize H1 = H at hP hS ⊢
        have hP : va_P E.1 vwCl [(h0, .inr (11, [.ref tp, .ref rd, .ref se, .ref ba, .ref of, .ref pl, .ref sr, .ref sc, .int 0])), (ba, .inl (E.2 4, 6, .inr (.inr (.inr (.inr fb))))), (bo, .inr (0, [.ref sp, .ref pa, .int 0, .ref ru, .ref co, .ref tr])), (tr, .inr (4, [.ref wy, .int 0, .int 0, .int (-1), .int 0, .int 0, .int 0, .int 0, .int 0, .int 0, .int 0, .int 0, .int 0, .int 0, .int (-1), .int 0]))] H := hP
        have hD : va_D A [(h0, .inr (11, [.ref tp, .ref rd, .ref se, .ref ba, .ref of, .ref pl, .ref sr, .ref sc, .int 0])), (ba, .inl (E.2 4, 6, .inr (.inr (.inr (.inr fb))))), (bo, .inr (0, [.ref sp, .ref pa, .int 0, .ref ru, .ref co, .ref tr])), (tr, .inr (4, [.ref wy, .int 0, .int 0, .int (-1), .int 0, .int 0, .int 0, .int 0, .int 0, .int 0, .int 0, .int 0, .int 0, .int 0, .int (-1), .int 0]))] := hD
        refine lv_if_eq (tgt := 52) hx hb dX11_pay_37 (by decide) (fun c18 => ?_) (fun c18 => ?_)
        · have b19 : inR less 0 1000 = false := bz hw17 c18
          refine lv_ldc (v := (-2000000000)) hx hb hown (hts (.constant RX11 182 (-2000000000)) (by decide +kernel)) dX11_pay_52 ?_
          have hP9 := hP.sub (ws' := []) [] rfl
          have hD9 := hD.sub (ws' := []) [] (by decide) rfl
          exact W.iret (v := (-2000000000)) hx hb hr (fun t ht hW => ⟨⟨(-2000000000), (), rfl, (by first | (rw [b5, b10, b15, b19]; done) | (rw [b5, b10, b15, b19]; rfl)), by rw [ht]; exact hP9, hD9⟩, hS.F ht⟩) hS.2.2 dX11_pay_54
        · have b20 : inR less 0 1000 = true := bn hw17 c18
          refine lv_iload hx hb dX11_pay_40 (lv_at hl 5 rfl) ?_
          refine lv_iconst (v := 0) hx hb dX11_pay_42 (by decide) ?_
          refine lv_sipush (v := 1000) hx hb dX11_pay_43 (by decide) ?_
          have hPc := hP.sub (ws' := []) [] rfl
          have hDc := hD.sub (ws' := []) [] (by decide) rfl
          have hFc := va_free (wc := []) hD hS hA [] rfl
          refine va_calli (va_runS (As := [.int more, .int 0, .int 1000]) (rest := []) ⟨hx, hb, hml, hown, hts⟩ (c_X11_within l E more 0 1000 H.size ) (va_cwS 3 hts gX11_pay_X11_within rfl rfl rfl (by decide +kernel) ⟨Nat.le_of_ble_eq_true rfl, Nat.le_of_ble_eq_true rfl⟩) ⟨pcW_blind, (pcW_pre hPc hkn hDc hst hS hFc)⟩ rfl rfl hl.1 rfl (lv_room (Nat.le_of_ble_eq_true rfl)) dX11_pay_46 ⟨Nat.le_of_ble_eq_true rfl, Nat.le_of_ble_eq_true rfl⟩) hS (fun q _ h => hFc q h) hFc (fun r21 u t H1 locs ht hvm hw22 hB hz1 hk1 hS => ?_)
          obtain ⟨hP1, hD1⟩ := hB
          rw [ht] at hP1
          try dsimp only at hw22
          obtain ⟨hP, hD⟩ := va_join (wr := [(h0, .inr (11, [.ref tp, .ref rd, .ref se, .ref ba, .ref of, .ref pl, .ref sr, .ref sc, .int 0])), (ba, .inl (E.2 4, 6, .inr (.inr (.inr (.inr fb))))), (bo, .inr (0, [.ref sp, .ref pa, .int 0, .ref ru, .ref co, .ref tr])), (tr, .inr (4, [.ref wy, .int 0, .int 0, .int (-1), .int 0, .int 0, .int 0, .int 0, .int 0, .int 0, .int 0, .int 0, .int 0, .int 0, .int (-1), .int 0]))]) (w1 := []) hP hD [] [0, 1, 2, 3] rfl rfl (by decide) (by decide) hk1 hFc hP1 hD1
          generalize H1 = H at hP hS ⊢
          have hP : va_P E.1 vwCl [(h0, .inr (11, [.ref tp, .ref rd, .ref se, .ref ba, .ref of, .ref pl, .ref sr, .ref sc, .int 0])), (ba, .inl (E.2 4, 6, .inr (.inr (.inr (.inr fb))))), (bo, .inr (0, [.ref sp, .ref pa, .int 0, .ref ru, .ref co, .ref tr])), (tr, .inr (4, [.ref wy, .int 0, .int 0, .int (-1), .int 0, .int 0, .int 0, .int 0, .int 0, .int 0, .int 0, .int 0, .int 0, .int 0, .int (-1), .int 0]))] H := hP
          have hD : va_D A [(h0, .inr (11, [.ref tp, .ref rd, .ref se, .ref ba, .ref of, .ref pl, .ref sr, .ref sc, .int 0])), (ba, .inl (E.2 4, 6, .inr (.inr (.inr (.inr fb))))), (bo, .inr (0, [.ref sp, .ref pa, .int 0, .ref ru, .ref co, .ref tr])), (tr, .inr (4, [.ref wy, .int 0, .int 0, .int (-1), .int 0, .int 0, .int 0, .int 0, .int 0, .int 0, .int 0, .int 0, .int 0, .int 0, .int (-1), .int 0]))] := hD
          refine lv_if_ne (tgt := 55) hx hb dX11_pay_49 (by decide) (fun c23 => ?_) (fun c23 => ?_)
          · have b24 : inR more 0 1000 = true := bn hw22 c23
            refine lv_aload_n hx hb dX11_pay_55 rfl (lv_at hl 0 rfl) ?_
            refine va_get (D := E.1) (ci := 11) (v := .ref ba) (C := RX11) (T := TX11) (N := 9) hx hb hts inX11 hown hK hP 0 rfl rfl 3 (by decide) fl34 (fun _ h9 => h9) rfl dX11_pay_56 ?_
            refine lv_iload_n hx hb dX11_pay_59 rfl (lv_at hl 1 rfl) ?_
            have hi25 : vp_in b 6 := inR_in (by decide) b5
            refine va_aldq hx hb hK hP 1 4 rfl rfl hi25 dX11_pay_60 ?_
            rw [show va_rf (fb b.toNatClampNeg) = .ref bo from by rw [hfb b5]; rfl]
            refine va_get (D := E.1) (ci := 0) (v := .ref tr) (C := RX0) (T := TX0) (N := 6) hx hb hts inX0 hown hK hP 2 rfl rfl 5 (by decide) fl144 (fun _ h9 => h9) rfl dX11_pay_61 ?_
            refine lv_astore (lv' := [(6, .ref tr), (0, .ref h0), (1, .int b), (2, .int kind), (3, .int sum), (4, .int less), (5, .int more)]) hx hb dX11_pay_64 hl (by decide) rfl (fun ls hl => ?_)
            refine lv_aload hx hb dX11_pay_66 (lv_at hl 0 rfl) ?_
            refine va_get (D := E.1) (ci := 4) (v := .int (-1)) (C := RX4) (T := TX4) (N := 16) hx hb hts inX4 hown hK hP 3 rfl rfl 3 (by decide) fl148 (fun _ h9 => h9) rfl dX11_pay_68 ?_
            refine lv_iconst (v := (-1)) hx hb dX11_pay_71 (by decide) ?_
            refine lv_icmp_ne (tgt := 78) hx hb dX11_pay_72 (by decide) (fun c9 => absurd c9 (by decide)) (fun _ => ?_)
            refine lv_ldc (v := (-2000000001)) hx hb hown (hts (.constant RX11 183 (-2000000001)) (by decide +kernel)) dX11_pay_75 ?_
            have hP9 := hP.sub (ws' := []) [] rfl
            have hD9 := hD.sub (ws' := []) [] (by decide) rfl
            exact W.iret (v := (-2000000001)) hx hb hr (fun t ht hW => ⟨⟨(-2000000001), (), rfl, (by first | (rw [b5, b10, b15, b20, b24]; done) | (rw [b5, b10, b15, b20, b24]; rfl)), by rw [ht]; exact hP9, hD9⟩, hS.F ht⟩) hS.2.2 dX11_pay_77
          · have b26 : inR more 0 1000 = false := bz hw22 c23
            refine lv_ldc (v := (-2000000000)) hx hb hown (hts (.constant RX11 182 (-2000000000)) (by decide +kernel)) dX11_pay_52 ?_
            have hP9 := hP.sub (ws' := []) [] rfl
            have hD9 := hD.sub (ws' := []) [] (by decide) rfl
            exact W.iret (v := (-2000000000)) hx hb hr (fun t ht hW => ⟨⟨(-2000000000), (), rfl, (by first | (rw [b5, b10, b15, b20, b26]; done) | (rw [b5, b10, b15, b20, b26]; rfl)), by rw [ht]; exact hP9, hD9⟩, hS.F ht⟩) hS.2.2 dX11_pay_54
