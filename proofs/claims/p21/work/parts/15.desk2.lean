set_option maxHeartbeats 4000000 in
set_option maxRecDepth 100000 in
theorem c_X11_boat (l : Launch) (E : vE) (h0 : Nat) (tp : Nat) (rd : Nat) (se : Nat) (ba : Nat) (of : Nat) (pl : Nat) (sr : Nat) (sc : Nat) (wk : Int32) (bo_ : Nat) (sp : Nat) (pa : Nat) (ru : Nat) (co : Nat) (tr : Nat) (lt : Int32) (fb : Nat → Option Nat) (fp : Nat → Int32) (b : Int32) (what : Int32) (sz : Nat) (hfb : inR b 0 5 = true → fb b.toNatClampNeg = some bo_) : Met l yX11_boat wsX11_boat ({ frames := 2, cells := 0, slots := 0, locals := 40 }) (pcW E [.ref h0, .int b, .int what] sz [(h0, .inr (11, [.ref tp, .ref rd, .ref se, .ref ba, .ref of, .ref pl, .ref sr, .ref sc, .int wk])), (ba, .inl (E.2.1 4, 6, .inr (.inr (.inr (.inr fb))))), (bo_, .inr (0, [.ref sp, .ref pa, .int lt, .ref ru, .ref co, .ref tr])), (pa, .inl (E.2.1 0, 4, .inl fp))]) (va_Qi (fun (r : Int32) (_ : Unit) => True) (fun (_ : Unit) (t : State) => wB E (va_A [(h0, .inr (11, [.ref tp, .ref rd, .ref se, .ref ba, .ref of, .ref pl, .ref sr, .ref sc, .int wk])), (ba, .inl (E.2.1 4, 6, .inr (.inr (.inr (.inr fb))))), (bo_, .inr (0, [.ref sp, .ref pa, .int lt, .ref ru, .ref co, .ref tr])), (pa, .inl (E.2.1 0, 4, .inl fp))] sz) [(h0, .inr (11, [.ref tp, .ref rd, .ref se, .ref ba, .ref of, .ref pl, .ref sr, .ref sc, .int wk])), (ba, .inl (E.2.1 4, 6, .inr (.inr (.inr (.inr fb))))), (bo_, .inr (0, [.ref sp, .ref pa, .int lt, .ref ru, .ref co, .ref tr])), (pa, .inl (E.2.1 0, 4, .inl fp))] t) (va_A [(h0, .inr (11, [.ref tp, .ref rd, .ref se, .ref ba, .ref of, .ref pl, .ref sr, .ref sc, .int wk])), (ba, .inl (E.2.1 4, 6, .inr (.inr (.inr (.inr fb))))), (bo_, .inr (0, [.ref sp, .ref pa, .int lt, .ref ru, .ref co, .ref tr])), (pa, .inl (E.2.1 0, 4, .inl fp))] sz)) 0 0 (va_A [(h0, .inr (11, [.ref tp, .ref rd, .ref se, .ref ba, .ref of, .ref pl, .ref sr, .ref sc, .int wk])), (ba, .inl (E.2.1 4, 6, .inr (.inr (.inr (.inr fb))))), (bo_, .inr (0, [.ref sp, .ref pa, .int lt, .ref ru, .ref co, .ref tr])), (pa, .inl (E.2.1 0, 4, .inl fp))] sz) := by
  refine Met.ofW (cc := cX11_boat) (maxL := 3) (ret := (some .int)) (by decide) rfl ?_
  intro p e s m args below meth c s₁ B hml hv
  obtain ⟨rfl, hsz, hP, hkn, hD0, hst⟩ := hv
  have hx := B.exec
  have hb := B.bytes
  have hr := B.returns
  have hts := atoms_spec (ws := wsX11_boat) B.pre
  have hown : s.vm.findClass RX11 = some m.cls := findClass_of_methodNamed B.named
  have hlocks := B.notSynchronized
  subst hsz
  have hD := hD0.self (sz := s.heap.size)
  have hK := hkn.1
  have hAO := hkn.2.2.1
  generalize hAe : va_A [(h0, .inr (11, [.ref tp, .ref rd, .ref se, .ref ba, .ref of, .ref pl, .ref sr, .ref sc, .int wk])), (ba, .inl (E.2.1 4, 6, .inr (.inr (.inr (.inr fb))))), (bo_, .inr (0, [.ref sp, .ref pa, .int lt, .ref ru, .ref co, .ref tr])), (pa, .inl (E.2.1 0, 4, .inl fp))] s.heap.size = A at hD hst ⊢
  have hA : ∀ q : Nat, s.heap.size ≤ q → A q := fun q h => by rw [← hAe]; exact Or.inr h
  have hS : va_S A s.heap s.heap [] := va_S.rf
  have hP : va_P E.1 vwCl [(h0, .inr (11, [.ref tp, .ref rd, .ref se, .ref ba, .ref of, .ref pl, .ref sr, .ref sc, .int wk])), (ba, .inl (E.2.1 4, 6, .inr (.inr (.inr (.inr fb))))), (bo_, .inr (0, [.ref sp, .ref pa, .int lt, .ref ru, .ref co, .ref tr])), (pa, .inl (E.2.1 0, 4, .inl fp))] s.heap := hP
  have hl := lv_entry ([.ref h0, .int b, .int what]) (n := 3) (Nat.le_of_ble_eq_true rfl)
  rw [lg_entry_eq]
  generalize (lg_sl ([.ref h0, .int b, .int what]) ++ List.replicate (3 - (lg_sl ([.ref h0, .int b, .int what])).length) Slot.unset).toArray = ls at hl ⊢
  have hl : lv_has ls 3 [(0, .ref h0), (1, .int b), (2, .int what)] := hl
  have fl34 := hts (.fieldLink RX11 34 "BoatsHome" "boats" "[LBoatsHome$Boat;") (by first | exact List.mem_of_getElem? (i := 1) rfl | decide +kernel)
  have fl102 := hts (.fieldLink RX11 102 "BoatsHome$Boat" "litres" "I") (by first | exact List.mem_of_getElem? (i := 3) rfl | decide +kernel)
  have fl105 := hts (.fieldLink RX11 105 "BoatsHome$Boat" "parts" "[I") (by first | exact List.mem_of_getElem? (i := 2) rfl | decide +kernel)
  have inX0 : ∀ w ∈ u_ws RX0 TX0 6, w ∈ wsX11_boat := by first | exact fun w h9 => (List.mem_cons_of_mem _ (List.mem_append_right _ h9)) | decide +kernel
  have inX11 : ∀ w ∈ u_ws RX11 TX11 9, w ∈ wsX11_boat := by first | exact fun w h9 => (List.mem_cons_of_mem _ (List.mem_append_left _ (List.mem_append_right _ h9))) | decide +kernel
  refine lv_iload_n hx hb dX11_boat_0 rfl (lv_at hl 1 rfl) ?_
  refine lv_bipush (v := 6) hx hb dX11_boat_1 (by decide) ?_
  have hPc := hP.sub (ws' := []) [] rfl
  have hDc := hD.sub (ws' := []) [] (by decide) rfl
  have hFc := va_free (wc := []) hD hS hA [] rfl
  refine va_calli (va_runS (As := [.int b, .int 6]) (rest := []) ⟨hx, hb, hml, hown, hts⟩ (c_X11_below l E b 6 5 s.heap.size (lt_le (by decide))) (va_cwS 2 hts gX11_boat_X11_below rfl rfl rfl hdS_X11_below ⟨Nat.le_of_ble_eq_true rfl, Nat.le_of_ble_eq_true rfl⟩) ⟨pcW_blind, (pcW_pre hPc hkn hDc hst hS hFc)⟩ rfl rfl hl.1 rfl (lv_room (Nat.le_of_ble_eq_true rfl)) dX11_boat_3 ⟨Nat.le_of_ble_eq_true rfl, Nat.le_of_ble_eq_true rfl⟩) hS (fun q _ h => hFc q h) hFc (fun r_1 u t H1 locs ht hvm hw_2 hB hz1 hk1 hS => ?_)
  obtain ⟨hP1, hD1⟩ := hB
  rw [ht] at hP1
  try dsimp only at hw_2
  obtain ⟨hP, hD⟩ := va_join (wr := [(h0, .inr (11, [.ref tp, .ref rd, .ref se, .ref ba, .ref of, .ref pl, .ref sr, .ref sc, .int wk])), (ba, .inl (E.2.1 4, 6, .inr (.inr (.inr (.inr fb))))), (bo_, .inr (0, [.ref sp, .ref pa, .int lt, .ref ru, .ref co, .ref tr])), (pa, .inl (E.2.1 0, 4, .inl fp))]) (w1 := []) hP hD [] [0, 1, 2, 3] rfl rfl (by decide) (by decide) hk1 hFc hP1 hD1
  generalize H1 = H at hP hS ⊢
  have hP : va_P E.1 vwCl [(h0, .inr (11, [.ref tp, .ref rd, .ref se, .ref ba, .ref of, .ref pl, .ref sr, .ref sc, .int wk])), (ba, .inl (E.2.1 4, 6, .inr (.inr (.inr (.inr fb))))), (bo_, .inr (0, [.ref sp, .ref pa, .int lt, .ref ru, .ref co, .ref tr])), (pa, .inl (E.2.1 0, 4, .inl fp))] H := hP
  have hD : va_D A [(h0, .inr (11, [.ref tp, .ref rd, .ref se, .ref ba, .ref of, .ref pl, .ref sr, .ref sc, .int wk])), (ba, .inl (E.2.1 4, 6, .inr (.inr (.inr (.inr fb))))), (bo_, .inr (0, [.ref sp, .ref pa, .int lt, .ref ru, .ref co, .ref tr])), (pa, .inl (E.2.1 0, 4, .inl fp))] := hD
  refine lv_if_ne (tgt := 12) hx hb dX11_boat_6 (by decide) (fun c_3 => ?_) (fun c_3 => ?_)
  · have b_4 : inR b 0 5 = true := bn hw_2 c_3
    refine lv_iload_n hx hb dX11_boat_12 rfl (lv_at hl 2 rfl) ?_
    refine lv_bipush (v := 10) hx hb dX11_boat_13 (by decide) ?_
    refine lv_bipush (v := 13) hx hb dX11_boat_15 (by decide) ?_
    have hPc := hP.sub (ws' := []) [] rfl
    have hDc := hD.sub (ws' := []) [] (by decide) rfl
    have hFc := va_free (wc := []) hD hS hA [] rfl
    refine va_calli (va_runS (As := [.int what, .int 10, .int 13]) (rest := []) ⟨hx, hb, hml, hown, hts⟩ (c_X11_within l E what 10 13 H.size ) (va_cwS 3 hts gX11_boat_X11_within rfl rfl rfl hdS_X11_within ⟨Nat.le_of_ble_eq_true rfl, Nat.le_of_ble_eq_true rfl⟩) ⟨pcW_blind, (pcW_pre hPc hkn hDc hst hS hFc)⟩ rfl rfl hl.1 rfl (lv_room (Nat.le_of_ble_eq_true rfl)) dX11_boat_17 ⟨Nat.le_of_ble_eq_true rfl, Nat.le_of_ble_eq_true rfl⟩) hS (fun q _ h => hFc q h) hFc (fun r_5 u t H1 locs ht hvm hw_6 hB hz1 hk1 hS => ?_)
    obtain ⟨hP1, hD1⟩ := hB
    rw [ht] at hP1
    try dsimp only at hw_6
    obtain ⟨hP, hD⟩ := va_join (wr := [(h0, .inr (11, [.ref tp, .ref rd, .ref se, .ref ba, .ref of, .ref pl, .ref sr, .ref sc, .int wk])), (ba, .inl (E.2.1 4, 6, .inr (.inr (.inr (.inr fb))))), (bo_, .inr (0, [.ref sp, .ref pa, .int lt, .ref ru, .ref co, .ref tr])), (pa, .inl (E.2.1 0, 4, .inl fp))]) (w1 := []) hP hD [] [0, 1, 2, 3] rfl rfl (by decide) (by decide) hk1 hFc hP1 hD1
    generalize H1 = H at hP hS ⊢
    have hP : va_P E.1 vwCl [(h0, .inr (11, [.ref tp, .ref rd, .ref se, .ref ba, .ref of, .ref pl, .ref sr, .ref sc, .int wk])), (ba, .inl (E.2.1 4, 6, .inr (.inr (.inr (.inr fb))))), (bo_, .inr (0, [.ref sp, .ref pa, .int lt, .ref ru, .ref co, .ref tr])), (pa, .inl (E.2.1 0, 4, .inl fp))] H := hP
    have hD : va_D A [(h0, .inr (11, [.ref tp, .ref rd, .ref se, .ref ba, .ref of, .ref pl, .ref sr, .ref sc, .int wk])), (ba, .inl (E.2.1 4, 6, .inr (.inr (.inr (.inr fb))))), (bo_, .inr (0, [.ref sp, .ref pa, .int lt, .ref ru, .ref co, .ref tr])), (pa, .inl (E.2.1 0, 4, .inl fp))] := hD
    refine lv_if_eq (tgt := 38) hx hb dX11_boat_20 (by decide) (fun c_7 => ?_) (fun c_7 => ?_)
    · have b_8 : inR what 10 13 = false := bz hw_6 c_7
      refine lv_iload_n hx hb dX11_boat_38 rfl (lv_at hl 2 rfl) ?_
      by_cases c_9 : what = 0
      · refine lv_lookup (off := 25) (tgt := 64) hx hb dX11_boat_39 (by decide) (by rw [c_9]; decide) (by decide) ?_
        refine lv_aload_n hx hb dX11_boat_64 rfl (lv_at hl 0 rfl) ?_
        refine va_get (D := E.1) (ci := 11) (v := .ref ba) (C := RX11) (T := TX11) (N := 9) hx hb hts inX11 hown hK hP 0 rfl rfl 3 (by decide) fl34 (fun _ h9 => h9) rfl dX11_boat_65 ?_
        refine lv_iload_n hx hb dX11_boat_68 rfl (lv_at hl 1 rfl) ?_
        have hi_10 : vp_in b 6 := inR_in (by decide) b_4
        refine va_aldq hx hb hK hP 1 4 rfl rfl hi_10 dX11_boat_69 ?_
        rw [show va_rf (fb b.toNatClampNeg) = .ref bo_ from by rw [hfb b_4]; rfl]
        refine va_get (D := E.1) (ci := 0) (v := .int lt) (C := RX0) (T := TX0) (N := 6) hx hb hts inX0 hown hK hP 2 rfl rfl 2 (by decide) fl102 (fun _ h9 => h9) rfl dX11_boat_70 ?_
        have hP9 := hP.sub (ws' := [(h0, .inr (11, [.ref tp, .ref rd, .ref se, .ref ba, .ref of, .ref pl, .ref sr, .ref sc, .int wk])), (ba, .inl (E.2.1 4, 6, .inr (.inr (.inr (.inr fb))))), (bo_, .inr (0, [.ref sp, .ref pa, .int lt, .ref ru, .ref co, .ref tr])), (pa, .inl (E.2.1 0, 4, .inl fp))]) [0, 1, 2, 3] rfl
        have hD9 := hD.sub (ws' := [(h0, .inr (11, [.ref tp, .ref rd, .ref se, .ref ba, .ref of, .ref pl, .ref sr, .ref sc, .int wk])), (ba, .inl (E.2.1 4, 6, .inr (.inr (.inr (.inr fb))))), (bo_, .inr (0, [.ref sp, .ref pa, .int lt, .ref ru, .ref co, .ref tr])), (pa, .inl (E.2.1 0, 4, .inl fp))]) [0, 1, 2, 3] (by decide) rfl
        exact W.iret (v := lt) hx hb hr (fun t ht hW => ⟨⟨lt, (), rfl, trivial, by rw [ht]; exact hP9, hD9⟩, hS.F ht⟩) hS.2.2 dX11_boat_73
      by_cases c_11 : what = 1
      · refine lv_lookup (off := 35) (tgt := 74) hx hb dX11_boat_39 (by decide) (by rw [c_11]; decide) (by decide) ?_
        refine lv_aload_n hx hb dX11_boat_74 rfl (lv_at hl 0 rfl) ?_
        refine va_get (D := E.1) (ci := 11) (v := .ref ba) (C := RX11) (T := TX11) (N := 9) hx hb hts inX11 hown hK hP 0 rfl rfl 3 (by decide) fl34 (fun _ h9 => h9) rfl dX11_boat_75 ?_
        refine lv_iload_n hx hb dX11_boat_78 rfl (lv_at hl 1 rfl) ?_
        have hi_12 : vp_in b 6 := inR_in (by decide) b_4
        refine va_aldq hx hb hK hP 1 4 rfl rfl hi_12 dX11_boat_79 ?_
        rw [show va_rf (fb b.toNatClampNeg) = .ref bo_ from by rw [hfb b_4]; rfl]
        have hPc := hP.sub (ws' := [(bo_, .inr (0, [.ref sp, .ref pa, .int lt, .ref ru, .ref co, .ref tr])), (pa, .inl (E.2.1 0, 4, .inl fp))]) [2, 3] rfl
        have hDc := hD.sub (ws' := [(bo_, .inr (0, [.ref sp, .ref pa, .int lt, .ref ru, .ref co, .ref tr])), (pa, .inl (E.2.1 0, 4, .inl fp))]) [2, 3] (by decide) rfl
        have hFc := va_free (wc := [(bo_, .inr (0, [.ref sp, .ref pa, .int lt, .ref ru, .ref co, .ref tr])), (pa, .inl (E.2.1 0, 4, .inl fp))]) hD hS hA [2, 3] rfl
        refine va_calli (va_runV (As := []) (rest := []) ⟨hx, hb, hml, hown, hts⟩ (c_X0_broken l E bo_ sp pa ru co tr lt fp H.size ) (cwV 0 hts gX11_boat_X0_broken rfl rfl rfl hdV_X0_broken ⟨Nat.le_of_ble_eq_true rfl, Nat.le_of_ble_eq_true rfl⟩) ⟨pcW_blind, va_recv hK hPc (ci := 0) (q0 := 0) rfl rfl, (pcW_pre hPc hkn hDc hst hS hFc)⟩ rfl rfl hl.1 rfl (lv_room (Nat.le_of_ble_eq_true rfl)) dX11_boat_80 ⟨Nat.le_of_ble_eq_true rfl, Nat.le_of_ble_eq_true rfl⟩) hS (fun q _ h => hFc q h) hFc (fun r_13 u t H1 locs ht hvm hw_14 hB hz1 hk1 hS => ?_)
        obtain ⟨hP1, hD1⟩ := hB
        rw [ht] at hP1
        try dsimp only at hw_14
        obtain ⟨hP, hD⟩ := va_join (wr := [(h0, .inr (11, [.ref tp, .ref rd, .ref se, .ref ba, .ref of, .ref pl, .ref sr, .ref sc, .int wk])), (ba, .inl (E.2.1 4, 6, .inr (.inr (.inr (.inr fb)))))]) (w1 := [(bo_, .inr (0, [.ref sp, .ref pa, .int lt, .ref ru, .ref co, .ref tr])), (pa, .inl (E.2.1 0, 4, .inl fp))]) hP hD [2, 3] [0, 1] rfl rfl (by decide) (by decide) hk1 hFc hP1 hD1
        generalize H1 = H at hP hS ⊢
        have hP : va_P E.1 vwCl [(h0, .inr (11, [.ref tp, .ref rd, .ref se, .ref ba, .ref of, .ref pl, .ref sr, .ref sc, .int wk])), (ba, .inl (E.2.1 4, 6, .inr (.inr (.inr (.inr fb))))), (bo_, .inr (0, [.ref sp, .ref pa, .int lt, .ref ru, .ref co, .ref tr])), (pa, .inl (E.2.1 0, 4, .inl fp))] H := hP
        have hD : va_D A [(h0, .inr (11, [.ref tp, .ref rd, .ref se, .ref ba, .ref of, .ref pl, .ref sr, .ref sc, .int wk])), (ba, .inl (E.2.1 4, 6, .inr (.inr (.inr (.inr fb))))), (bo_, .inr (0, [.ref sp, .ref pa, .int lt, .ref ru, .ref co, .ref tr])), (pa, .inl (E.2.1 0, 4, .inl fp))] := hD
        have hP9 := hP.sub (ws' := [(h0, .inr (11, [.ref tp, .ref rd, .ref se, .ref ba, .ref of, .ref pl, .ref sr, .ref sc, .int wk])), (ba, .inl (E.2.1 4, 6, .inr (.inr (.inr (.inr fb))))), (bo_, .inr (0, [.ref sp, .ref pa, .int lt, .ref ru, .ref co, .ref tr])), (pa, .inl (E.2.1 0, 4, .inl fp))]) [0, 1, 2, 3] rfl
        have hD9 := hD.sub (ws' := [(h0, .inr (11, [.ref tp, .ref rd, .ref se, .ref ba, .ref of, .ref pl, .ref sr, .ref sc, .int wk])), (ba, .inl (E.2.1 4, 6, .inr (.inr (.inr (.inr fb))))), (bo_, .inr (0, [.ref sp, .ref pa, .int lt, .ref ru, .ref co, .ref tr])), (pa, .inl (E.2.1 0, 4, .inl fp))]) [0, 1, 2, 3] (by decide) rfl
        exact W.iret (v := r_13) hx hb hr (fun t ht hW => ⟨⟨r_13, (), rfl, trivial, by rw [ht]; exact hP9, hD9⟩, hS.F ht⟩) hS.2.2 dX11_boat_83
      refine lv_lookup (off := 45) (tgt := 84) hx hb dX11_boat_39 (by decide) (by have g0 : ¬ (0 : Int) = what.toInt := fun h => c_9 (Int32.toInt_inj.mp (h.symm.trans (by decide))); have g1 : ¬ (1 : Int) = what.toInt := fun h => c_11 (Int32.toInt_inj.mp (h.symm.trans (by decide))); simp [Op.lookupswitch.offset, g0, g1]) (by decide) ?_
      refine lv_bipush (v := (-9)) hx hb dX11_boat_84 (by decide) ?_
      have hP9 := hP.sub (ws' := [(h0, .inr (11, [.ref tp, .ref rd, .ref se, .ref ba, .ref of, .ref pl, .ref sr, .ref sc, .int wk])), (ba, .inl (E.2.1 4, 6, .inr (.inr (.inr (.inr fb))))), (bo_, .inr (0, [.ref sp, .ref pa, .int lt, .ref ru, .ref co, .ref tr])), (pa, .inl (E.2.1 0, 4, .inl fp))]) [0, 1, 2, 3] rfl
      have hD9 := hD.sub (ws' := [(h0, .inr (11, [.ref tp, .ref rd, .ref se, .ref ba, .ref of, .ref pl, .ref sr, .ref sc, .int wk])), (ba, .inl (E.2.1 4, 6, .inr (.inr (.inr (.inr fb))))), (bo_, .inr (0, [.ref sp, .ref pa, .int lt, .ref ru, .ref co, .ref tr])), (pa, .inl (E.2.1 0, 4, .inl fp))]) [0, 1, 2, 3] (by decide) rfl
      exact W.iret (v := (-9)) hx hb hr (fun t ht hW => ⟨⟨(-9), (), rfl, trivial, by rw [ht]; exact hP9, hD9⟩, hS.F ht⟩) hS.2.2 dX11_boat_86
    · have b_15 : inR what 10 13 = true := bn hw_6 c_7
      refine lv_aload_n hx hb dX11_boat_23 rfl (lv_at hl 0 rfl) ?_
      refine va_get (D := E.1) (ci := 11) (v := .ref ba) (C := RX11) (T := TX11) (N := 9) hx hb hts inX11 hown hK hP 0 rfl rfl 3 (by decide) fl34 (fun _ h9 => h9) rfl dX11_boat_24 ?_
      refine lv_iload_n hx hb dX11_boat_27 rfl (lv_at hl 1 rfl) ?_
      have hi_16 : vp_in b 6 := inR_in (by decide) b_4
      refine va_aldq hx hb hK hP 1 4 rfl rfl hi_16 dX11_boat_28 ?_
      rw [show va_rf (fb b.toNatClampNeg) = .ref bo_ from by rw [hfb b_4]; rfl]
      refine va_get (D := E.1) (ci := 0) (v := .ref pa) (C := RX0) (T := TX0) (N := 6) hx hb hts inX0 hown hK hP 2 rfl rfl 1 (by decide) fl105 (fun _ h9 => h9) rfl dX11_boat_29 ?_
      refine lv_iload_n hx hb dX11_boat_32 rfl (lv_at hl 2 rfl) ?_
      refine lv_bipush (v := 10) hx hb dX11_boat_33 (by decide) ?_
      refine lv_isub hx hb dX11_boat_35 ?_
      refine lv_topi (fun x_17 ex_17 => ?_)
      have hi_18 : vp_in x_17 4 := by rw [ex_17]; exact (ixS b_15 (a := 10) rfl (b := 13) (by decide) (by decide) (by decide) (by decide)).1
      refine va_iald hx hb hK hP 3 0 rfl rfl hi_18 dX11_boat_36 ?_
      refine lv_topi (fun x_19 ex_19 => ?_)
      have hP9 := hP.sub (ws' := [(h0, .inr (11, [.ref tp, .ref rd, .ref se, .ref ba, .ref of, .ref pl, .ref sr, .ref sc, .int wk])), (ba, .inl (E.2.1 4, 6, .inr (.inr (.inr (.inr fb))))), (bo_, .inr (0, [.ref sp, .ref pa, .int lt, .ref ru, .ref co, .ref tr])), (pa, .inl (E.2.1 0, 4, .inl fp))]) [0, 1, 2, 3] rfl
      have hD9 := hD.sub (ws' := [(h0, .inr (11, [.ref tp, .ref rd, .ref se, .ref ba, .ref of, .ref pl, .ref sr, .ref sc, .int wk])), (ba, .inl (E.2.1 4, 6, .inr (.inr (.inr (.inr fb))))), (bo_, .inr (0, [.ref sp, .ref pa, .int lt, .ref ru, .ref co, .ref tr])), (pa, .inl (E.2.1 0, 4, .inl fp))]) [0, 1, 2, 3] (by decide) rfl
      exact W.iret (v := x_19) hx hb hr (fun t ht hW => ⟨⟨x_19, (), rfl, trivial, by rw [ht]; exact hP9, hD9⟩, hS.F ht⟩) hS.2.2 dX11_boat_37
  · have b_20 : inR b 0 5 = false := bz hw_2 c_3
    refine lv_bipush (v := (-9)) hx hb dX11_boat_9 (by decide) ?_
    have hP9 := hP.sub (ws' := [(h0, .inr (11, [.ref tp, .ref rd, .ref se, .ref ba, .ref of, .ref pl, .ref sr, .ref sc, .int wk])), (ba, .inl (E.2.1 4, 6, .inr (.inr (.inr (.inr fb))))), (bo_, .inr (0, [.ref sp, .ref pa, .int lt, .ref ru, .ref co, .ref tr])), (pa, .inl (E.2.1 0, 4, .inl fp))]) [0, 1, 2, 3] rfl
    have hD9 := hD.sub (ws' := [(h0, .inr (11, [.ref tp, .ref rd, .ref se, .ref ba, .ref of, .ref pl, .ref sr, .ref sc, .int wk])), (ba, .inl (E.2.1 4, 6, .inr (.inr (.inr (.inr fb))))), (bo_, .inr (0, [.ref sp, .ref pa, .int lt, .ref ru, .ref co, .ref tr])), (pa, .inl (E.2.1 0, 4, .inl fp))]) [0, 1, 2, 3] (by decide) rfl
    exact W.iret (v := (-9)) hx hb hr (fun t ht hW => ⟨⟨(-9), (), rfl, trivial, by rw [ht]; exact hP9, hD9⟩, hS.F ht⟩) hS.2.2 dX11_boat_11
set_option maxHeartbeats 4000000 in
set_option maxRecDepth 100000 in
theorem c_X11_wind (l : Launch) (E : vE) (h0 : Nat) (tp : Nat) (rd : Nat) (se : Nat) (ba : Nat) (of : Nat) (pl : Nat) (sr : Nat) (sc : Nat) (wk : Int32) (wi : Nat) (po : Nat) (zone : Int32) (month : Int32) (dir : Int32) (force : Int32) (fw : Nat → Int32) (sz : Nat) : Met l yX11_wind wsX11_wind ({ frames := 2, cells := 0, slots := 0, locals := 40 }) (pcW E [.ref h0, .int zone, .int month, .int dir, .int force] sz [(h0, .inr (11, [.ref tp, .ref rd, .ref se, .ref ba, .ref of, .ref pl, .ref sr, .ref sc, .int wk])), (se, .inr (8, [.ref wi, .ref po])), (wi, .inl (E.2.1 0, 288, .inl fw))]) (va_Qi (fun (r : Int32) (fw2 : (Nat → Int32)) => ((inR zone 0 23 && inR month 0 11 && inR dir 0 7 && inR force 0 9) = true ∧ r = fw (zone * 12 + month).toNatClampNeg ∧ fw2 = upd fw (zone * 12 + month).toNatClampNeg (10 * dir + force)) ∨ ((inR zone 0 23 && inR month 0 11 && inR dir 0 7 && inR force 0 9) = false ∧ r = -2 ∧ fw2 = fw)) (fun (fw2 : (Nat → Int32)) (t : State) => wB E (va_A [(h0, .inr (11, [.ref tp, .ref rd, .ref se, .ref ba, .ref of, .ref pl, .ref sr, .ref sc, .int wk])), (se, .inr (8, [.ref wi, .ref po])), (wi, .inl (E.2.1 0, 288, .inl fw))] sz) [(h0, .inr (11, [.ref tp, .ref rd, .ref se, .ref ba, .ref of, .ref pl, .ref sr, .ref sc, .int wk])), (se, .inr (8, [.ref wi, .ref po])), (wi, .inl (E.2.1 0, 288, .inl fw2))] t) (va_A [(h0, .inr (11, [.ref tp, .ref rd, .ref se, .ref ba, .ref of, .ref pl, .ref sr, .ref sc, .int wk])), (se, .inr (8, [.ref wi, .ref po])), (wi, .inl (E.2.1 0, 288, .inl fw))] sz)) 0 0 (va_A [(h0, .inr (11, [.ref tp, .ref rd, .ref se, .ref ba, .ref of, .ref pl, .ref sr, .ref sc, .int wk])), (se, .inr (8, [.ref wi, .ref po])), (wi, .inl (E.2.1 0, 288, .inl fw))] sz) := by
  refine Met.ofW (cc := cX11_wind) (maxL := 7) (ret := (some .int)) (by decide) rfl ?_
  intro p e s m args below meth c s₁ B hml hv
  obtain ⟨rfl, hsz, hP, hkn, hD0, hst⟩ := hv
  have hx := B.exec
  have hb := B.bytes
  have hr := B.returns
  have hts := atoms_spec (ws := wsX11_wind) B.pre
  have hown : s.vm.findClass RX11 = some m.cls := findClass_of_methodNamed B.named
  have hlocks := B.notSynchronized
  subst hsz
  have hD := hD0.self (sz := s.heap.size)
  have hK := hkn.1
  have hAO := hkn.2.2.1
  generalize hAe : va_A [(h0, .inr (11, [.ref tp, .ref rd, .ref se, .ref ba, .ref of, .ref pl, .ref sr, .ref sc, .int wk])), (se, .inr (8, [.ref wi, .ref po])), (wi, .inl (E.2.1 0, 288, .inl fw))] s.heap.size = A at hD hst ⊢
  have hA : ∀ q : Nat, s.heap.size ≤ q → A q := fun q h => by rw [← hAe]; exact Or.inr h
  have hS : va_S A s.heap s.heap [] := va_S.rf
  have hP : va_P E.1 vwCl [(h0, .inr (11, [.ref tp, .ref rd, .ref se, .ref ba, .ref of, .ref pl, .ref sr, .ref sc, .int wk])), (se, .inr (8, [.ref wi, .ref po])), (wi, .inl (E.2.1 0, 288, .inl fw))] s.heap := hP
  have hl := lv_entry ([.ref h0, .int zone, .int month, .int dir, .int force]) (n := 7) (Nat.le_of_ble_eq_true rfl)
  rw [lg_entry_eq]
  generalize (lg_sl ([.ref h0, .int zone, .int month, .int dir, .int force]) ++ List.replicate (7 - (lg_sl ([.ref h0, .int zone, .int month, .int dir, .int force])).length) Slot.unset).toArray = ls at hl ⊢
  have hl : lv_has ls 7 [(0, .ref h0), (1, .int zone), (2, .int month), (3, .int dir), (4, .int force)] := hl
  have fl28 := hts (.fieldLink RX11 28 "BoatsHome" "sea" "LBoatsHome$Sea;") (by first | exact List.mem_of_getElem? (i := 1) rfl | decide +kernel)
  have fl88 := hts (.fieldLink RX11 88 "BoatsHome$Sea" "winds" "[I") (by first | exact List.mem_of_getElem? (i := 2) rfl | decide +kernel)
  have inX11 : ∀ w ∈ u_ws RX11 TX11 9, w ∈ wsX11_wind := by first | exact fun w h9 => (List.mem_cons_of_mem _ (List.mem_append_left _ (List.mem_append_right _ h9))) | decide +kernel
  have inX8 : ∀ w ∈ u_ws RX8 TX8 2, w ∈ wsX11_wind := by first | exact fun w h9 => (List.mem_cons_of_mem _ (List.mem_append_right _ h9)) | decide +kernel
  refine lv_iload_n hx hb dX11_wind_0 rfl (lv_at hl 1 rfl) ?_
  refine lv_bipush (v := 24) hx hb dX11_wind_1 (by decide) ?_
  have hPc := hP.sub (ws' := []) [] rfl
  have hDc := hD.sub (ws' := []) [] (by decide) rfl
  have hFc := va_free (wc := []) hD hS hA [] rfl
  refine va_calli (va_runS (As := [.int zone, .int 24]) (rest := []) ⟨hx, hb, hml, hown, hts⟩ (c_X11_below l E zone 24 23 s.heap.size (lt_le (by decide))) (va_cwS 2 hts gX11_wind_X11_below rfl rfl rfl hdS_X11_below ⟨Nat.le_of_ble_eq_true rfl, Nat.le_of_ble_eq_true rfl⟩) ⟨pcW_blind, (pcW_pre hPc hkn hDc hst hS hFc)⟩ rfl rfl hl.1 rfl (lv_room (Nat.le_of_ble_eq_true rfl)) dX11_wind_3 ⟨Nat.le_of_ble_eq_true rfl, Nat.le_of_ble_eq_true rfl⟩) hS (fun q _ h => hFc q h) hFc (fun r_1 u t H1 locs ht hvm hw_2 hB hz1 hk1 hS => ?_)
  obtain ⟨hP1, hD1⟩ := hB
  rw [ht] at hP1
  try dsimp only at hw_2
  obtain ⟨hP, hD⟩ := va_join (wr := [(h0, .inr (11, [.ref tp, .ref rd, .ref se, .ref ba, .ref of, .ref pl, .ref sr, .ref sc, .int wk])), (se, .inr (8, [.ref wi, .ref po])), (wi, .inl (E.2.1 0, 288, .inl fw))]) (w1 := []) hP hD [] [0, 1, 2] rfl rfl (by decide) (by decide) hk1 hFc hP1 hD1
  generalize H1 = H at hP hS ⊢
  have hP : va_P E.1 vwCl [(h0, .inr (11, [.ref tp, .ref rd, .ref se, .ref ba, .ref of, .ref pl, .ref sr, .ref sc, .int wk])), (se, .inr (8, [.ref wi, .ref po])), (wi, .inl (E.2.1 0, 288, .inl fw))] H := hP
  have hD : va_D A [(h0, .inr (11, [.ref tp, .ref rd, .ref se, .ref ba, .ref of, .ref pl, .ref sr, .ref sc, .int wk])), (se, .inr (8, [.ref wi, .ref po])), (wi, .inl (E.2.1 0, 288, .inl fw))] := hD
  refine lv_if_eq (tgt := 38) hx hb dX11_wind_6 (by decide) (fun c_3 => ?_) (fun c_3 => ?_)
  · have b_4 : inR zone 0 23 = false := bz hw_2 c_3
    refine lv_bipush (v := (-2)) hx hb dX11_wind_38 (by decide) ?_
    have hP9 := hP.sub (ws' := [(h0, .inr (11, [.ref tp, .ref rd, .ref se, .ref ba, .ref of, .ref pl, .ref sr, .ref sc, .int wk])), (se, .inr (8, [.ref wi, .ref po])), (wi, .inl (E.2.1 0, 288, .inl fw))]) [0, 1, 2] rfl
    have hD9 := hD.sub (ws' := [(h0, .inr (11, [.ref tp, .ref rd, .ref se, .ref ba, .ref of, .ref pl, .ref sr, .ref sc, .int wk])), (se, .inr (8, [.ref wi, .ref po])), (wi, .inl (E.2.1 0, 288, .inl fw))]) [0, 1, 2] (by decide) rfl
    exact W.iret (v := (-2)) hx hb hr (fun t ht hW => ⟨⟨(-2), fw, rfl, Or.inr ⟨(by first | (rw [b_4]; done) | (rw [b_4]; rfl)), rfl, rfl⟩, by rw [ht]; exact hP9, hD9⟩, hS.F ht⟩) hS.2.2 dX11_wind_40
  · have b_5 : inR zone 0 23 = true := bn hw_2 c_3
    refine lv_iload_n hx hb dX11_wind_9 rfl (lv_at hl 2 rfl) ?_
    refine lv_bipush (v := 12) hx hb dX11_wind_10 (by decide) ?_
    have hPc := hP.sub (ws' := []) [] rfl
    have hDc := hD.sub (ws' := []) [] (by decide) rfl
    have hFc := va_free (wc := []) hD hS hA [] rfl
    refine va_calli (va_runS (As := [.int month, .int 12]) (rest := []) ⟨hx, hb, hml, hown, hts⟩ (c_X11_below l E month 12 11 H.size (lt_le (by decide))) (va_cwS 2 hts gX11_wind_X11_below rfl rfl rfl hdS_X11_below ⟨Nat.le_of_ble_eq_true rfl, Nat.le_of_ble_eq_true rfl⟩) ⟨pcW_blind, (pcW_pre hPc hkn hDc hst hS hFc)⟩ rfl rfl hl.1 rfl (lv_room (Nat.le_of_ble_eq_true rfl)) dX11_wind_12 ⟨Nat.le_of_ble_eq_true rfl, Nat.le_of_ble_eq_true rfl⟩) hS (fun q _ h => hFc q h) hFc (fun r_6 u t H1 locs ht hvm hw_7 hB hz1 hk1 hS => ?_)
    obtain ⟨hP1, hD1⟩ := hB
    rw [ht] at hP1
    try dsimp only at hw_7
    obtain ⟨hP, hD⟩ := va_join (wr := [(h0, .inr (11, [.ref tp, .ref rd, .ref se, .ref ba, .ref of, .ref pl, .ref sr, .ref sc, .int wk])), (se, .inr (8, [.ref wi, .ref po])), (wi, .inl (E.2.1 0, 288, .inl fw))]) (w1 := []) hP hD [] [0, 1, 2] rfl rfl (by decide) (by decide) hk1 hFc hP1 hD1
    generalize H1 = H at hP hS ⊢
    have hP : va_P E.1 vwCl [(h0, .inr (11, [.ref tp, .ref rd, .ref se, .ref ba, .ref of, .ref pl, .ref sr, .ref sc, .int wk])), (se, .inr (8, [.ref wi, .ref po])), (wi, .inl (E.2.1 0, 288, .inl fw))] H := hP
    have hD : va_D A [(h0, .inr (11, [.ref tp, .ref rd, .ref se, .ref ba, .ref of, .ref pl, .ref sr, .ref sc, .int wk])), (se, .inr (8, [.ref wi, .ref po])), (wi, .inl (E.2.1 0, 288, .inl fw))] := hD
    refine lv_if_eq (tgt := 38) hx hb dX11_wind_15 (by decide) (fun c_8 => ?_) (fun c_8 => ?_)
    · have b_9 : inR month 0 11 = false := bz hw_7 c_8
      refine lv_bipush (v := (-2)) hx hb dX11_wind_38 (by decide) ?_
      have hP9 := hP.sub (ws' := [(h0, .inr (11, [.ref tp, .ref rd, .ref se, .ref ba, .ref of, .ref pl, .ref sr, .ref sc, .int wk])), (se, .inr (8, [.ref wi, .ref po])), (wi, .inl (E.2.1 0, 288, .inl fw))]) [0, 1, 2] rfl
      have hD9 := hD.sub (ws' := [(h0, .inr (11, [.ref tp, .ref rd, .ref se, .ref ba, .ref of, .ref pl, .ref sr, .ref sc, .int wk])), (se, .inr (8, [.ref wi, .ref po])), (wi, .inl (E.2.1 0, 288, .inl fw))]) [0, 1, 2] (by decide) rfl
      exact W.iret (v := (-2)) hx hb hr (fun t ht hW => ⟨⟨(-2), fw, rfl, Or.inr ⟨(by first | (rw [b_5, b_9]; done) | (rw [b_5, b_9]; rfl)), rfl, rfl⟩, by rw [ht]; exact hP9, hD9⟩, hS.F ht⟩) hS.2.2 dX11_wind_40
    · have b_10 : inR month 0 11 = true := bn hw_7 c_8
      refine lv_iload_n hx hb dX11_wind_18 rfl (lv_at hl 3 rfl) ?_
      refine lv_bipush (v := 8) hx hb dX11_wind_19 (by decide) ?_
      have hPc := hP.sub (ws' := []) [] rfl
      have hDc := hD.sub (ws' := []) [] (by decide) rfl
      have hFc := va_free (wc := []) hD hS hA [] rfl
      refine va_calli (va_runS (As := [.int dir, .int 8]) (rest := []) ⟨hx, hb, hml, hown, hts⟩ (c_X11_below l E dir 8 7 H.size (lt_le (by decide))) (va_cwS 2 hts gX11_wind_X11_below rfl rfl rfl hdS_X11_below ⟨Nat.le_of_ble_eq_true rfl, Nat.le_of_ble_eq_true rfl⟩) ⟨pcW_blind, (pcW_pre hPc hkn hDc hst hS hFc)⟩ rfl rfl hl.1 rfl (lv_room (Nat.le_of_ble_eq_true rfl)) dX11_wind_21 ⟨Nat.le_of_ble_eq_true rfl, Nat.le_of_ble_eq_true rfl⟩) hS (fun q _ h => hFc q h) hFc (fun r_11 u t H1 locs ht hvm hw_12 hB hz1 hk1 hS => ?_)
      obtain ⟨hP1, hD1⟩ := hB
      rw [ht] at hP1
      try dsimp only at hw_12
      obtain ⟨hP, hD⟩ := va_join (wr := [(h0, .inr (11, [.ref tp, .ref rd, .ref se, .ref ba, .ref of, .ref pl, .ref sr, .ref sc, .int wk])), (se, .inr (8, [.ref wi, .ref po])), (wi, .inl (E.2.1 0, 288, .inl fw))]) (w1 := []) hP hD [] [0, 1, 2] rfl rfl (by decide) (by decide) hk1 hFc hP1 hD1
      generalize H1 = H at hP hS ⊢
      have hP : va_P E.1 vwCl [(h0, .inr (11, [.ref tp, .ref rd, .ref se, .ref ba, .ref of, .ref pl, .ref sr, .ref sc, .int wk])), (se, .inr (8, [.ref wi, .ref po])), (wi, .inl (E.2.1 0, 288, .inl fw))] H := hP
      have hD : va_D A [(h0, .inr (11, [.ref tp, .ref rd, .ref se, .ref ba, .ref of, .ref pl, .ref sr, .ref sc, .int wk])), (se, .inr (8, [.ref wi, .ref po])), (wi, .inl (E.2.1 0, 288, .inl fw))] := hD
      refine lv_if_eq (tgt := 38) hx hb dX11_wind_24 (by decide) (fun c_13 => ?_) (fun c_13 => ?_)
      · have b_14 : inR dir 0 7 = false := bz hw_12 c_13
        refine lv_bipush (v := (-2)) hx hb dX11_wind_38 (by decide) ?_
        have hP9 := hP.sub (ws' := [(h0, .inr (11, [.ref tp, .ref rd, .ref se, .ref ba, .ref of, .ref pl, .ref sr, .ref sc, .int wk])), (se, .inr (8, [.ref wi, .ref po])), (wi, .inl (E.2.1 0, 288, .inl fw))]) [0, 1, 2] rfl
        have hD9 := hD.sub (ws' := [(h0, .inr (11, [.ref tp, .ref rd, .ref se, .ref ba, .ref of, .ref pl, .ref sr, .ref sc, .int wk])), (se, .inr (8, [.ref wi, .ref po])), (wi, .inl (E.2.1 0, 288, .inl fw))]) [0, 1, 2] (by decide) rfl
        exact W.iret (v := (-2)) hx hb hr (fun t ht hW => ⟨⟨(-2), fw, rfl, Or.inr ⟨(by first | (rw [b_5, b_10, b_14]; done) | (rw [b_5, b_10, b_14]; rfl)), rfl, rfl⟩, by rw [ht]; exact hP9, hD9⟩, hS.F ht⟩) hS.2.2 dX11_wind_40
      · have b_15 : inR dir 0 7 = true := bn hw_12 c_13
        refine lv_iload hx hb dX11_wind_27 (lv_at hl 4 rfl) ?_
        refine lv_iconst (v := 0) hx hb dX11_wind_29 (by decide) ?_
        refine lv_bipush (v := 9) hx hb dX11_wind_30 (by decide) ?_
        have hPc := hP.sub (ws' := []) [] rfl
        have hDc := hD.sub (ws' := []) [] (by decide) rfl
        have hFc := va_free (wc := []) hD hS hA [] rfl
        refine va_calli (va_runS (As := [.int force, .int 0, .int 9]) (rest := []) ⟨hx, hb, hml, hown, hts⟩ (c_X11_within l E force 0 9 H.size ) (va_cwS 3 hts gX11_wind_X11_within rfl rfl rfl hdS_X11_within ⟨Nat.le_of_ble_eq_true rfl, Nat.le_of_ble_eq_true rfl⟩) ⟨pcW_blind, (pcW_pre hPc hkn hDc hst hS hFc)⟩ rfl rfl hl.1 rfl (lv_room (Nat.le_of_ble_eq_true rfl)) dX11_wind_32 ⟨Nat.le_of_ble_eq_true rfl, Nat.le_of_ble_eq_true rfl⟩) hS (fun q _ h => hFc q h) hFc (fun r_16 u t H1 locs ht hvm hw_17 hB hz1 hk1 hS => ?_)
        obtain ⟨hP1, hD1⟩ := hB
        rw [ht] at hP1
        try dsimp only at hw_17
        obtain ⟨hP, hD⟩ := va_join (wr := [(h0, .inr (11, [.ref tp, .ref rd, .ref se, .ref ba, .ref of, .ref pl, .ref sr, .ref sc, .int wk])), (se, .inr (8, [.ref wi, .ref po])), (wi, .inl (E.2.1 0, 288, .inl fw))]) (w1 := []) hP hD [] [0, 1, 2] rfl rfl (by decide) (by decide) hk1 hFc hP1 hD1
        generalize H1 = H at hP hS ⊢
        have hP : va_P E.1 vwCl [(h0, .inr (11, [.ref tp, .ref rd, .ref se, .ref ba, .ref of, .ref pl, .ref sr, .ref sc, .int wk])), (se, .inr (8, [.ref wi, .ref po])), (wi, .inl (E.2.1 0, 288, .inl fw))] H := hP
        have hD : va_D A [(h0, .inr (11, [.ref tp, .ref rd, .ref se, .ref ba, .ref of, .ref pl, .ref sr, .ref sc, .int wk])), (se, .inr (8, [.ref wi, .ref po])), (wi, .inl (E.2.1 0, 288, .inl fw))] := hD
        refine lv_if_ne (tgt := 41) hx hb dX11_wind_35 (by decide) (fun c_18 => ?_) (fun c_18 => ?_)
        · have b_19 : inR force 0 9 = true := bn hw_17 c_18
          refine lv_iload_n hx hb dX11_wind_41 rfl (lv_at hl 1 rfl) ?_
          refine lv_bipush (v := 12) hx hb dX11_wind_42 (by decide) ?_
          refine lv_imul hx hb dX11_wind_44 ?_
          refine lv_topi (fun x_20 ex_20 => ?_)
          refine lv_iload_n hx hb dX11_wind_45 rfl (lv_at hl 2 rfl) ?_
          refine lv_iadd hx hb dX11_wind_46 ?_
          refine lv_topi (fun x_21 ex_21 => ?_)
          refine lv_istore (lv' := [(5, .int x_21), (0, .ref h0), (1, .int zone), (2, .int month), (3, .int dir), (4, .int force)]) hx hb dX11_wind_47 hl (by decide) rfl (fun ls hl => ?_)
          refine lv_aload_n hx hb dX11_wind_49 rfl (lv_at hl 1 rfl) ?_
          refine va_get (D := E.1) (ci := 11) (v := .ref se) (C := RX11) (T := TX11) (N := 9) hx hb hts inX11 hown hK hP 0 rfl rfl 2 (by decide) fl28 (fun _ h9 => h9) rfl dX11_wind_50 ?_
          refine va_get (D := E.1) (ci := 8) (v := .ref wi) (C := RX8) (T := TX8) (N := 2) hx hb hts inX8 hown hK hP 1 rfl rfl 0 (by decide) fl88 (fun _ h9 => h9) rfl dX11_wind_53 ?_
          refine lv_iload hx hb dX11_wind_56 (lv_at hl 0 rfl) ?_
          have hi_22 : vp_in x_21 288 := by rw [ex_21, ex_20]; exact ixA b_5 (a := 23) (by decide) b_10 (b := 11) (by decide) (M := 12) rfl (by decide) (by decide)
          refine va_iald hx hb hK hP 2 0 rfl rfl hi_22 dX11_wind_58 ?_
          refine lv_topi (fun x_23 ex_23 => ?_)
          refine lv_istore (lv' := [(6, .int x_23), (5, .int x_21), (0, .ref h0), (1, .int zone), (2, .int month), (3, .int dir), (4, .int force)]) hx hb dX11_wind_59 hl (by decide) rfl (fun ls hl => ?_)
          refine lv_aload_n hx hb dX11_wind_61 rfl (lv_at hl 2 rfl) ?_
          refine va_get (D := E.1) (ci := 11) (v := .ref se) (C := RX11) (T := TX11) (N := 9) hx hb hts inX11 hown hK hP 0 rfl rfl 2 (by decide) fl28 (fun _ h9 => h9) rfl dX11_wind_62 ?_
          refine va_get (D := E.1) (ci := 8) (v := .ref wi) (C := RX8) (T := TX8) (N := 2) hx hb hts inX8 hown hK hP 1 rfl rfl 0 (by decide) fl88 (fun _ h9 => h9) rfl dX11_wind_65 ?_
          refine lv_iload hx hb dX11_wind_68 (lv_at hl 1 rfl) ?_
          refine lv_bipush (v := 10) hx hb dX11_wind_70 (by decide) ?_
          refine lv_iload_n hx hb dX11_wind_72 rfl (lv_at hl 5 rfl) ?_
          refine lv_imul hx hb dX11_wind_73 ?_
          refine lv_topi (fun x_24 ex_24 => ?_)
          refine lv_iload hx hb dX11_wind_74 (lv_at hl 6 rfl) ?_
          refine lv_iadd hx hb dX11_wind_76 ?_
          refine lv_topi (fun x_25 ex_25 => ?_)
          refine va_iast hx hb hK hP hD hS 2 0 rfl rfl hi_22 dX11_wind_77 (fun H locs hP hD hS => ?_)
          have hP : va_P E.1 vwCl [(h0, .inr (11, [.ref tp, .ref rd, .ref se, .ref ba, .ref of, .ref pl, .ref sr, .ref sc, .int wk])), (se, .inr (8, [.ref wi, .ref po])), (wi, .inl (E.2.1 0, 288, .inl (upd fw x_21.toNatClampNeg x_25)))] H := hP
          have hD : va_D A [(h0, .inr (11, [.ref tp, .ref rd, .ref se, .ref ba, .ref of, .ref pl, .ref sr, .ref sc, .int wk])), (se, .inr (8, [.ref wi, .ref po])), (wi, .inl (E.2.1 0, 288, .inl (upd fw x_21.toNatClampNeg x_25)))] := hD
          obtain ⟨f_26, ef_26⟩ : ∃ g : Nat → Int32, g = upd fw x_21.toNatClampNeg x_25 := ⟨_, rfl⟩
          rw [← ef_26] at hP hD
          refine lv_iload hx hb dX11_wind_78 (lv_at hl 0 rfl) ?_
          have hP9 := hP.sub (ws' := [(h0, .inr (11, [.ref tp, .ref rd, .ref se, .ref ba, .ref of, .ref pl, .ref sr, .ref sc, .int wk])), (se, .inr (8, [.ref wi, .ref po])), (wi, .inl (E.2.1 0, 288, .inl f_26))]) [0, 1, 2] rfl
          have hD9 := hD.sub (ws' := [(h0, .inr (11, [.ref tp, .ref rd, .ref se, .ref ba, .ref of, .ref pl, .ref sr, .ref sc, .int wk])), (se, .inr (8, [.ref wi, .ref po])), (wi, .inl (E.2.1 0, 288, .inl f_26))]) [0, 1, 2] (by decide) rfl
          exact W.iret (v := x_23) hx hb hr (fun t ht hW => ⟨⟨x_23, f_26, rfl, Or.inl ⟨(by first | (rw [b_5, b_10, b_15, b_19]; done) | (rw [b_5, b_10, b_15, b_19]; rfl)), by rw [ex_23, ex_21, ex_20], by rw [ef_26, ex_21, ex_20, ex_25, ex_24]⟩, by rw [ht]; exact hP9, hD9⟩, hS.F ht⟩) hS.2.2 dX11_wind_80
        · have b_27 : inR force 0 9 = false := bz hw_17 c_18
          refine lv_bipush (v := (-2)) hx hb dX11_wind_38 (by decide) ?_
          have hP9 := hP.sub (ws' := [(h0, .inr (11, [.ref tp, .ref rd, .ref se, .ref ba, .ref of, .ref pl, .ref sr, .ref sc, .int wk])), (se, .inr (8, [.ref wi, .ref po])), (wi, .inl (E.2.1 0, 288, .inl fw))]) [0, 1, 2] rfl
          have hD9 := hD.sub (ws' := [(h0, .inr (11, [.ref tp, .ref rd, .ref se, .ref ba, .ref of, .ref pl, .ref sr, .ref sc, .int wk])), (se, .inr (8, [.ref wi, .ref po])), (wi, .inl (E.2.1 0, 288, .inl fw))]) [0, 1, 2] (by decide) rfl
          exact W.iret (v := (-2)) hx hb hr (fun t ht hW => ⟨⟨(-2), fw, rfl, Or.inr ⟨(by first | (rw [b_5, b_10, b_15, b_27]; done) | (rw [b_5, b_10, b_15, b_27]; rfl)), rfl, rfl⟩, by rw [ht]; exact hP9, hD9⟩, hS.F ht⟩) hS.2.2 dX11_wind_40
set_option maxHeartbeats 4000000 in
set_option maxRecDepth 100000 in
theorem c_X11_port (l : Launch) (E : vE) (h0 : Nat) (tp : Nat) (rd : Nat) (se : Nat) (ba : Nat) (of : Nat) (pl : Nat) (sr : Nat) (sc : Nat) (wk : Int32) (wi : Nat) (po : Nat) (pp : Int32) (place : Int32) (fo_ : Nat → Int32) (sz : Nat) : Met l yX11_port wsX11_port ({ frames := 2, cells := 0, slots := 0, locals := 40 }) (pcW E [.ref h0, .int pp, .int place] sz [(h0, .inr (11, [.ref tp, .ref rd, .ref se, .ref ba, .ref of, .ref pl, .ref sr, .ref sc, .int wk])), (se, .inr (8, [.ref wi, .ref po])), (po, .inl (E.2.1 0, 10, .inl fo_))]) (va_Qi (fun (r : Int32) (fo2 : (Nat → Int32)) => ((inR pp 0 9 && isPl place) = true ∧ r = fo_ pp.toNatClampNeg ∧ fo2 = upd fo_ pp.toNatClampNeg place) ∨ ((inR pp 0 9 && isPl place) = false ∧ r = -2 ∧ fo2 = fo_)) (fun (fo2 : (Nat → Int32)) (t : State) => wB E (va_A [(h0, .inr (11, [.ref tp, .ref rd, .ref se, .ref ba, .ref of, .ref pl, .ref sr, .ref sc, .int wk])), (se, .inr (8, [.ref wi, .ref po])), (po, .inl (E.2.1 0, 10, .inl fo_))] sz) [(h0, .inr (11, [.ref tp, .ref rd, .ref se, .ref ba, .ref of, .ref pl, .ref sr, .ref sc, .int wk])), (se, .inr (8, [.ref wi, .ref po])), (po, .inl (E.2.1 0, 10, .inl fo2))] t) (va_A [(h0, .inr (11, [.ref tp, .ref rd, .ref se, .ref ba, .ref of, .ref pl, .ref sr, .ref sc, .int wk])), (se, .inr (8, [.ref wi, .ref po])), (po, .inl (E.2.1 0, 10, .inl fo_))] sz)) 0 0 (va_A [(h0, .inr (11, [.ref tp, .ref rd, .ref se, .ref ba, .ref of, .ref pl, .ref sr, .ref sc, .int wk])), (se, .inr (8, [.ref wi, .ref po])), (po, .inl (E.2.1 0, 10, .inl fo_))] sz) := by
  refine Met.ofW (cc := cX11_port) (maxL := 4) (ret := (some .int)) (by decide) rfl ?_
  intro p e s m args below meth c s₁ B hml hv
  obtain ⟨rfl, hsz, hP, hkn, hD0, hst⟩ := hv
  have hx := B.exec
  have hb := B.bytes
  have hr := B.returns
  have hts := atoms_spec (ws := wsX11_port) B.pre
  have hown : s.vm.findClass RX11 = some m.cls := findClass_of_methodNamed B.named
  have hlocks := B.notSynchronized
  subst hsz
  have hD := hD0.self (sz := s.heap.size)
  have hK := hkn.1
  have hAO := hkn.2.2.1
  generalize hAe : va_A [(h0, .inr (11, [.ref tp, .ref rd, .ref se, .ref ba, .ref of, .ref pl, .ref sr, .ref sc, .int wk])), (se, .inr (8, [.ref wi, .ref po])), (po, .inl (E.2.1 0, 10, .inl fo_))] s.heap.size = A at hD hst ⊢
  have hA : ∀ q : Nat, s.heap.size ≤ q → A q := fun q h => by rw [← hAe]; exact Or.inr h
  have hS : va_S A s.heap s.heap [] := va_S.rf
  have hP : va_P E.1 vwCl [(h0, .inr (11, [.ref tp, .ref rd, .ref se, .ref ba, .ref of, .ref pl, .ref sr, .ref sc, .int wk])), (se, .inr (8, [.ref wi, .ref po])), (po, .inl (E.2.1 0, 10, .inl fo_))] s.heap := hP
  have hl := lv_entry ([.ref h0, .int pp, .int place]) (n := 4) (Nat.le_of_ble_eq_true rfl)
  rw [lg_entry_eq]
  generalize (lg_sl ([.ref h0, .int pp, .int place]) ++ List.replicate (4 - (lg_sl ([.ref h0, .int pp, .int place])).length) Slot.unset).toArray = ls at hl ⊢
  have hl : lv_has ls 4 [(0, .ref h0), (1, .int pp), (2, .int place)] := hl
  have fl28 := hts (.fieldLink RX11 28 "BoatsHome" "sea" "LBoatsHome$Sea;") (by first | exact List.mem_of_getElem? (i := 1) rfl | decide +kernel)
  have fl96 := hts (.fieldLink RX11 96 "BoatsHome$Sea" "ports" "[I") (by first | exact List.mem_of_getElem? (i := 2) rfl | decide +kernel)
  have inX11 : ∀ w ∈ u_ws RX11 TX11 9, w ∈ wsX11_port := by first | exact fun w h9 => (List.mem_cons_of_mem _ (List.mem_append_left _ (List.mem_append_right _ h9))) | decide +kernel
  have inX8 : ∀ w ∈ u_ws RX8 TX8 2, w ∈ wsX11_port := by first | exact fun w h9 => (List.mem_cons_of_mem _ (List.mem_append_right _ h9)) | decide +kernel
  refine lv_iload_n hx hb dX11_port_0 rfl (lv_at hl 1 rfl) ?_
  refine lv_bipush (v := 10) hx hb dX11_port_1 (by decide) ?_
  have hPc := hP.sub (ws' := []) [] rfl
  have hDc := hD.sub (ws' := []) [] (by decide) rfl
  have hFc := va_free (wc := []) hD hS hA [] rfl
  refine va_calli (va_runS (As := [.int pp, .int 10]) (rest := []) ⟨hx, hb, hml, hown, hts⟩ (c_X11_below l E pp 10 9 s.heap.size (lt_le (by decide))) (va_cwS 2 hts gX11_port_X11_below rfl rfl rfl hdS_X11_below ⟨Nat.le_of_ble_eq_true rfl, Nat.le_of_ble_eq_true rfl⟩) ⟨pcW_blind, (pcW_pre hPc hkn hDc hst hS hFc)⟩ rfl rfl hl.1 rfl (lv_room (Nat.le_of_ble_eq_true rfl)) dX11_port_3 ⟨Nat.le_of_ble_eq_true rfl, Nat.le_of_ble_eq_true rfl⟩) hS (fun q _ h => hFc q h) hFc (fun r_1 u t H1 locs ht hvm hw_2 hB hz1 hk1 hS => ?_)
  obtain ⟨hP1, hD1⟩ := hB
  rw [ht] at hP1
  try dsimp only at hw_2
  obtain ⟨hP, hD⟩ := va_join (wr := [(h0, .inr (11, [.ref tp, .ref rd, .ref se, .ref ba, .ref of, .ref pl, .ref sr, .ref sc, .int wk])), (se, .inr (8, [.ref wi, .ref po])), (po, .inl (E.2.1 0, 10, .inl fo_))]) (w1 := []) hP hD [] [0, 1, 2] rfl rfl (by decide) (by decide) hk1 hFc hP1 hD1
  generalize H1 = H at hP hS ⊢
  have hP : va_P E.1 vwCl [(h0, .inr (11, [.ref tp, .ref rd, .ref se, .ref ba, .ref of, .ref pl, .ref sr, .ref sc, .int wk])), (se, .inr (8, [.ref wi, .ref po])), (po, .inl (E.2.1 0, 10, .inl fo_))] H := hP
  have hD : va_D A [(h0, .inr (11, [.ref tp, .ref rd, .ref se, .ref ba, .ref of, .ref pl, .ref sr, .ref sc, .int wk])), (se, .inr (8, [.ref wi, .ref po])), (po, .inl (E.2.1 0, 10, .inl fo_))] := hD
  refine lv_if_eq (tgt := 16) hx hb dX11_port_6 (by decide) (fun c_3 => ?_) (fun c_3 => ?_)
  · have b_4 : inR pp 0 9 = false := bz hw_2 c_3
    refine lv_bipush (v := (-2)) hx hb dX11_port_16 (by decide) ?_
    have hP9 := hP.sub (ws' := [(h0, .inr (11, [.ref tp, .ref rd, .ref se, .ref ba, .ref of, .ref pl, .ref sr, .ref sc, .int wk])), (se, .inr (8, [.ref wi, .ref po])), (po, .inl (E.2.1 0, 10, .inl fo_))]) [0, 1, 2] rfl
    have hD9 := hD.sub (ws' := [(h0, .inr (11, [.ref tp, .ref rd, .ref se, .ref ba, .ref of, .ref pl, .ref sr, .ref sc, .int wk])), (se, .inr (8, [.ref wi, .ref po])), (po, .inl (E.2.1 0, 10, .inl fo_))]) [0, 1, 2] (by decide) rfl
    exact W.iret (v := (-2)) hx hb hr (fun t ht hW => ⟨⟨(-2), fo_, rfl, Or.inr ⟨(by first | (rw [b_4]; done) | (rw [b_4]; rfl)), rfl, rfl⟩, by rw [ht]; exact hP9, hD9⟩, hS.F ht⟩) hS.2.2 dX11_port_18
  · have b_5 : inR pp 0 9 = true := bn hw_2 c_3
    refine lv_iload_n hx hb dX11_port_9 rfl (lv_at hl 2 rfl) ?_
    have hPc := hP.sub (ws' := []) [] rfl
    have hDc := hD.sub (ws' := []) [] (by decide) rfl
    have hFc := va_free (wc := []) hD hS hA [] rfl
    refine va_calli (va_runS (As := [.int place]) (rest := []) ⟨hx, hb, hml, hown, hts⟩ (c_X11_isPlace l E place H.size ) (va_cwS 1 hts gX11_port_X11_isPlace rfl rfl rfl hdS_X11_isPlace ⟨Nat.le_of_ble_eq_true rfl, Nat.le_of_ble_eq_true rfl⟩) ⟨pcW_blind, (pcW_pre hPc hkn hDc hst hS hFc)⟩ rfl rfl hl.1 rfl (lv_room (Nat.le_of_ble_eq_true rfl)) dX11_port_10 ⟨Nat.le_of_ble_eq_true rfl, Nat.le_of_ble_eq_true rfl⟩) hS (fun q _ h => hFc q h) hFc (fun r_6 u t H1 locs ht hvm hw_7 hB hz1 hk1 hS => ?_)
    obtain ⟨hP1, hD1⟩ := hB
    rw [ht] at hP1
    try dsimp only at hw_7
    obtain ⟨hP, hD⟩ := va_join (wr := [(h0, .inr (11, [.ref tp, .ref rd, .ref se, .ref ba, .ref of, .ref pl, .ref sr, .ref sc, .int wk])), (se, .inr (8, [.ref wi, .ref po])), (po, .inl (E.2.1 0, 10, .inl fo_))]) (w1 := []) hP hD [] [0, 1, 2] rfl rfl (by decide) (by decide) hk1 hFc hP1 hD1
    generalize H1 = H at hP hS ⊢
    have hP : va_P E.1 vwCl [(h0, .inr (11, [.ref tp, .ref rd, .ref se, .ref ba, .ref of, .ref pl, .ref sr, .ref sc, .int wk])), (se, .inr (8, [.ref wi, .ref po])), (po, .inl (E.2.1 0, 10, .inl fo_))] H := hP
    have hD : va_D A [(h0, .inr (11, [.ref tp, .ref rd, .ref se, .ref ba, .ref of, .ref pl, .ref sr, .ref sc, .int wk])), (se, .inr (8, [.ref wi, .ref po])), (po, .inl (E.2.1 0, 10, .inl fo_))] := hD
    refine lv_if_ne (tgt := 19) hx hb dX11_port_13 (by decide) (fun c_8 => ?_) (fun c_8 => ?_)
    · have b_9 : isPl place = true := bn hw_7 c_8
      refine lv_aload_n hx hb dX11_port_19 rfl (lv_at hl 0 rfl) ?_
      refine va_get (D := E.1) (ci := 11) (v := .ref se) (C := RX11) (T := TX11) (N := 9) hx hb hts inX11 hown hK hP 0 rfl rfl 2 (by decide) fl28 (fun _ h9 => h9) rfl dX11_port_20 ?_
      refine va_get (D := E.1) (ci := 8) (v := .ref po) (C := RX8) (T := TX8) (N := 2) hx hb hts inX8 hown hK hP 1 rfl rfl 1 (by decide) fl96 (fun _ h9 => h9) rfl dX11_port_23 ?_
      refine lv_iload_n hx hb dX11_port_26 rfl (lv_at hl 1 rfl) ?_
      have hi_10 : vp_in pp 10 := inR_in (by decide) b_5
      refine va_iald hx hb hK hP 2 0 rfl rfl hi_10 dX11_port_27 ?_
      refine lv_topi (fun x_11 ex_11 => ?_)
      refine lv_istore_n (lv' := [(3, .int x_11), (0, .ref h0), (1, .int pp), (2, .int place)]) hx hb dX11_port_28 rfl hl (by decide) rfl (fun ls hl => ?_)
      refine lv_aload_n hx hb dX11_port_29 rfl (lv_at hl 1 rfl) ?_
      refine va_get (D := E.1) (ci := 11) (v := .ref se) (C := RX11) (T := TX11) (N := 9) hx hb hts inX11 hown hK hP 0 rfl rfl 2 (by decide) fl28 (fun _ h9 => h9) rfl dX11_port_30 ?_
      refine va_get (D := E.1) (ci := 8) (v := .ref po) (C := RX8) (T := TX8) (N := 2) hx hb hts inX8 hown hK hP 1 rfl rfl 1 (by decide) fl96 (fun _ h9 => h9) rfl dX11_port_33 ?_
      refine lv_iload_n hx hb dX11_port_36 rfl (lv_at hl 2 rfl) ?_
      refine lv_iload_n hx hb dX11_port_37 rfl (lv_at hl 3 rfl) ?_
      refine va_iast hx hb hK hP hD hS 2 0 rfl rfl hi_10 dX11_port_38 (fun H locs hP hD hS => ?_)
      have hP : va_P E.1 vwCl [(h0, .inr (11, [.ref tp, .ref rd, .ref se, .ref ba, .ref of, .ref pl, .ref sr, .ref sc, .int wk])), (se, .inr (8, [.ref wi, .ref po])), (po, .inl (E.2.1 0, 10, .inl (upd fo_ pp.toNatClampNeg place)))] H := hP
      have hD : va_D A [(h0, .inr (11, [.ref tp, .ref rd, .ref se, .ref ba, .ref of, .ref pl, .ref sr, .ref sc, .int wk])), (se, .inr (8, [.ref wi, .ref po])), (po, .inl (E.2.1 0, 10, .inl (upd fo_ pp.toNatClampNeg place)))] := hD
      obtain ⟨f_12, ef_12⟩ : ∃ g : Nat → Int32, g = upd fo_ pp.toNatClampNeg place := ⟨_, rfl⟩
      rw [← ef_12] at hP hD
      refine lv_iload_n hx hb dX11_port_39 rfl (lv_at hl 0 rfl) ?_
      have hP9 := hP.sub (ws' := [(h0, .inr (11, [.ref tp, .ref rd, .ref se, .ref ba, .ref of, .ref pl, .ref sr, .ref sc, .int wk])), (se, .inr (8, [.ref wi, .ref po])), (po, .inl (E.2.1 0, 10, .inl f_12))]) [0, 1, 2] rfl
      have hD9 := hD.sub (ws' := [(h0, .inr (11, [.ref tp, .ref rd, .ref se, .ref ba, .ref of, .ref pl, .ref sr, .ref sc, .int wk])), (se, .inr (8, [.ref wi, .ref po])), (po, .inl (E.2.1 0, 10, .inl f_12))]) [0, 1, 2] (by decide) rfl
      exact W.iret (v := x_11) hx hb hr (fun t ht hW => ⟨⟨x_11, f_12, rfl, Or.inl ⟨(by first | (rw [b_5, b_9]; done) | (rw [b_5, b_9]; rfl)), ex_11, ef_12⟩, by rw [ht]; exact hP9, hD9⟩, hS.F ht⟩) hS.2.2 dX11_port_40
    · have b_13 : isPl place = false := bz hw_7 c_8
      refine lv_bipush (v := (-2)) hx hb dX11_port_16 (by decide) ?_
      have hP9 := hP.sub (ws' := [(h0, .inr (11, [.ref tp, .ref rd, .ref se, .ref ba, .ref of, .ref pl, .ref sr, .ref sc, .int wk])), (se, .inr (8, [.ref wi, .ref po])), (po, .inl (E.2.1 0, 10, .inl fo_))]) [0, 1, 2] rfl
      have hD9 := hD.sub (ws' := [(h0, .inr (11, [.ref tp, .ref rd, .ref se, .ref ba, .ref of, .ref pl, .ref sr, .ref sc, .int wk])), (se, .inr (8, [.ref wi, .ref po])), (po, .inl (E.2.1 0, 10, .inl fo_))]) [0, 1, 2] (by decide) rfl
      exact W.iret (v := (-2)) hx hb hr (fun t ht hW => ⟨⟨(-2), fo_, rfl, Or.inr ⟨(by first | (rw [b_5, b_13]; done) | (rw [b_5, b_13]; rfl)), rfl, rfl⟩, by rw [ht]; exact hP9, hD9⟩, hS.F ht⟩) hS.2.2 dX11_port_18
set_option maxHeartbeats 4000000 in
set_option maxRecDepth 100000 in
theorem c_X11_crew (l : Launch) (E : vE) (h0 : Nat) (tp : Nat) (rd : Nat) (se : Nat) (ba : Nat) (of : Nat) (pl : Nat) (sr : Nat) (sc : Nat) (wk : Int32) (k1 : Nat) (k2 : Nat) (k3 : Nat) (k4 : Nat) (md : Int32) (dn : Int32) (fsu : Int32) (g1 : Nat) (g2 : Nat) (g3 : Nat) (g4 : Nat) (g5 : Nat) (g6 : Nat) (g7 : Nat) (g8 : Nat) (on : Nat) (d6 : Nat → Int32) (d7 : Nat → Int32) (cr : Int32) (port : Int32) (day : Int32) (sz : Nat) : Met l yX11_crew wsX11_crew ({ frames := 2, cells := 0, slots := 0, locals := 40 }) (pcW E [.ref h0, .int cr, .int port, .int day] sz [(h0, .inr (11, [.ref tp, .ref rd, .ref se, .ref ba, .ref of, .ref pl, .ref sr, .ref sc, .int wk])), (pl, .inr (5, [.ref of, .ref k1, .ref k2, .ref k3, .ref k4, .int md, .int dn, .int fsu])), (of, .inr (2, [.ref g1, .ref g2, .ref g3, .ref g4, .ref g5, .int (nI on), .ref g6, .ref g7, .ref g8])), (g6, .inl (E.2.1 0, 4, .inl d6)), (g7, .inl (E.2.1 0, 4, .inl d7))]) (va_Qi (fun (r : Int32) (u : Int32 × (Nat → Int32) × (Nat → Int32)) => match u with | (md2, d62, d72) => r = cond (inR cr 0 3 && inR port 0 9 && inR day 0 999) 1 (-2)) (fun (u : Int32 × (Nat → Int32) × (Nat → Int32)) (t : State) => match u with | (md2, d62, d72) => wB E (va_A [(h0, .inr (11, [.ref tp, .ref rd, .ref se, .ref ba, .ref of, .ref pl, .ref sr, .ref sc, .int wk])), (pl, .inr (5, [.ref of, .ref k1, .ref k2, .ref k3, .ref k4, .int md, .int dn, .int fsu])), (of, .inr (2, [.ref g1, .ref g2, .ref g3, .ref g4, .ref g5, .int (nI on), .ref g6, .ref g7, .ref g8])), (g6, .inl (E.2.1 0, 4, .inl d6)), (g7, .inl (E.2.1 0, 4, .inl d7))] sz) [(h0, .inr (11, [.ref tp, .ref rd, .ref se, .ref ba, .ref of, .ref pl, .ref sr, .ref sc, .int wk])), (pl, .inr (5, [.ref of, .ref k1, .ref k2, .ref k3, .ref k4, .int md2, .int dn, .int fsu])), (of, .inr (2, [.ref g1, .ref g2, .ref g3, .ref g4, .ref g5, .int (nI on), .ref g6, .ref g7, .ref g8])), (g6, .inl (E.2.1 0, 4, .inl d62)), (g7, .inl (E.2.1 0, 4, .inl d72))] t) (va_A [(h0, .inr (11, [.ref tp, .ref rd, .ref se, .ref ba, .ref of, .ref pl, .ref sr, .ref sc, .int wk])), (pl, .inr (5, [.ref of, .ref k1, .ref k2, .ref k3, .ref k4, .int md, .int dn, .int fsu])), (of, .inr (2, [.ref g1, .ref g2, .ref g3, .ref g4, .ref g5, .int (nI on), .ref g6, .ref g7, .ref g8])), (g6, .inl (E.2.1 0, 4, .inl d6)), (g7, .inl (E.2.1 0, 4, .inl d7))] sz)) 0 0 (va_A [(h0, .inr (11, [.ref tp, .ref rd, .ref se, .ref ba, .ref of, .ref pl, .ref sr, .ref sc, .int wk])), (pl, .inr (5, [.ref of, .ref k1, .ref k2, .ref k3, .ref k4, .int md, .int dn, .int fsu])), (of, .inr (2, [.ref g1, .ref g2, .ref g3, .ref g4, .ref g5, .int (nI on), .ref g6, .ref g7, .ref g8])), (g6, .inl (E.2.1 0, 4, .inl d6)), (g7, .inl (E.2.1 0, 4, .inl d7))] sz) := by
  refine Met.ofW (cc := cX11_crew) (maxL := 4) (ret := (some .int)) (by decide) rfl ?_
  intro p e s m args below meth c s₁ B hml hv
  obtain ⟨rfl, hsz, hP, hkn, hD0, hst⟩ := hv
  have hx := B.exec
  have hb := B.bytes
  have hr := B.returns
  have hts := atoms_spec (ws := wsX11_crew) B.pre
  have hown : s.vm.findClass RX11 = some m.cls := findClass_of_methodNamed B.named
  have hlocks := B.notSynchronized
  subst hsz
  have hD := hD0.self (sz := s.heap.size)
  have hK := hkn.1
  have hAO := hkn.2.2.1
  generalize hAe : va_A [(h0, .inr (11, [.ref tp, .ref rd, .ref se, .ref ba, .ref of, .ref pl, .ref sr, .ref sc, .int wk])), (pl, .inr (5, [.ref of, .ref k1, .ref k2, .ref k3, .ref k4, .int md, .int dn, .int fsu])), (of, .inr (2, [.ref g1, .ref g2, .ref g3, .ref g4, .ref g5, .int (nI on), .ref g6, .ref g7, .ref g8])), (g6, .inl (E.2.1 0, 4, .inl d6)), (g7, .inl (E.2.1 0, 4, .inl d7))] s.heap.size = A at hD hst ⊢
  have hA : ∀ q : Nat, s.heap.size ≤ q → A q := fun q h => by rw [← hAe]; exact Or.inr h
  have hS : va_S A s.heap s.heap [] := va_S.rf
  have hP : va_P E.1 vwCl [(h0, .inr (11, [.ref tp, .ref rd, .ref se, .ref ba, .ref of, .ref pl, .ref sr, .ref sc, .int wk])), (pl, .inr (5, [.ref of, .ref k1, .ref k2, .ref k3, .ref k4, .int md, .int dn, .int fsu])), (of, .inr (2, [.ref g1, .ref g2, .ref g3, .ref g4, .ref g5, .int (nI on), .ref g6, .ref g7, .ref g8])), (g6, .inl (E.2.1 0, 4, .inl d6)), (g7, .inl (E.2.1 0, 4, .inl d7))] s.heap := hP
  have hl := lv_entry ([.ref h0, .int cr, .int port, .int day]) (n := 4) (Nat.le_of_ble_eq_true rfl)
  rw [lg_entry_eq]
  generalize (lg_sl ([.ref h0, .int cr, .int port, .int day]) ++ List.replicate (4 - (lg_sl ([.ref h0, .int cr, .int port, .int day])).length) Slot.unset).toArray = ls at hl ⊢
  have hl : lv_has ls 4 [(0, .ref h0), (1, .int cr), (2, .int port), (3, .int day)] := hl
  have fl42 := hts (.fieldLink RX11 42 "BoatsHome" "offers" "LBoatsHome$Offers;") (by first | exact List.mem_of_getElem? (i := 3) rfl | decide +kernel)
  have fl51 := hts (.fieldLink RX11 51 "BoatsHome" "latestPlan" "LBoatsHome$Plan;") (by first | exact List.mem_of_getElem? (i := 1) rfl | decide +kernel)
  have fl198 := hts (.fieldLink RX11 198 "BoatsHome$Plan" "made" "Z") (by first | exact List.mem_of_getElem? (i := 2) rfl | decide +kernel)
  have fl206 := hts (.fieldLink RX11 206 "BoatsHome$Offers" "crewPorts" "[I") (by first | exact List.mem_of_getElem? (i := 4) rfl | decide +kernel)
  have fl209 := hts (.fieldLink RX11 209 "BoatsHome$Offers" "crewDays" "[I") (by first | exact List.mem_of_getElem? (i := 5) rfl | decide +kernel)
  have inX11 : ∀ w ∈ u_ws RX11 TX11 9, w ∈ wsX11_crew := by first | exact fun w h9 => (List.mem_cons_of_mem _ (List.mem_append_left _ (List.mem_append_left _ (List.mem_append_right _ h9)))) | decide +kernel
  have inX2 : ∀ w ∈ u_ws RX2 TX2 9, w ∈ wsX11_crew := by first | exact fun w h9 => (List.mem_cons_of_mem _ (List.mem_append_right _ h9)) | decide +kernel
  have inX5 : ∀ w ∈ u_ws RX5 TX5 8, w ∈ wsX11_crew := by first | exact fun w h9 => (List.mem_cons_of_mem _ (List.mem_append_left _ (List.mem_append_right _ h9))) | decide +kernel
  refine lv_iload_n hx hb dX11_crew_0 rfl (lv_at hl 1 rfl) ?_
  refine lv_iconst (v := 4) hx hb dX11_crew_1 (by decide) ?_
  have hPc := hP.sub (ws' := []) [] rfl
  have hDc := hD.sub (ws' := []) [] (by decide) rfl
  have hFc := va_free (wc := []) hD hS hA [] rfl
  refine va_calli (va_runS (As := [.int cr, .int 4]) (rest := []) ⟨hx, hb, hml, hown, hts⟩ (c_X11_below l E cr 4 3 s.heap.size (lt_le (by decide))) (va_cwS 2 hts gX11_crew_X11_below rfl rfl rfl hdS_X11_below ⟨Nat.le_of_ble_eq_true rfl, Nat.le_of_ble_eq_true rfl⟩) ⟨pcW_blind, (pcW_pre hPc hkn hDc hst hS hFc)⟩ rfl rfl hl.1 rfl (lv_room (Nat.le_of_ble_eq_true rfl)) dX11_crew_2 ⟨Nat.le_of_ble_eq_true rfl, Nat.le_of_ble_eq_true rfl⟩) hS (fun q _ h => hFc q h) hFc (fun r_1 u t H1 locs ht hvm hw_2 hB hz1 hk1 hS => ?_)
  obtain ⟨hP1, hD1⟩ := hB
  rw [ht] at hP1
  try dsimp only at hw_2
  obtain ⟨hP, hD⟩ := va_join (wr := [(h0, .inr (11, [.ref tp, .ref rd, .ref se, .ref ba, .ref of, .ref pl, .ref sr, .ref sc, .int wk])), (pl, .inr (5, [.ref of, .ref k1, .ref k2, .ref k3, .ref k4, .int md, .int dn, .int fsu])), (of, .inr (2, [.ref g1, .ref g2, .ref g3, .ref g4, .ref g5, .int (nI on), .ref g6, .ref g7, .ref g8])), (g6, .inl (E.2.1 0, 4, .inl d6)), (g7, .inl (E.2.1 0, 4, .inl d7))]) (w1 := []) hP hD [] [0, 1, 2, 3, 4] rfl rfl (by decide) (by decide) hk1 hFc hP1 hD1
  generalize H1 = H at hP hS ⊢
  have hP : va_P E.1 vwCl [(h0, .inr (11, [.ref tp, .ref rd, .ref se, .ref ba, .ref of, .ref pl, .ref sr, .ref sc, .int wk])), (pl, .inr (5, [.ref of, .ref k1, .ref k2, .ref k3, .ref k4, .int md, .int dn, .int fsu])), (of, .inr (2, [.ref g1, .ref g2, .ref g3, .ref g4, .ref g5, .int (nI on), .ref g6, .ref g7, .ref g8])), (g6, .inl (E.2.1 0, 4, .inl d6)), (g7, .inl (E.2.1 0, 4, .inl d7))] H := hP
  have hD : va_D A [(h0, .inr (11, [.ref tp, .ref rd, .ref se, .ref ba, .ref of, .ref pl, .ref sr, .ref sc, .int wk])), (pl, .inr (5, [.ref of, .ref k1, .ref k2, .ref k3, .ref k4, .int md, .int dn, .int fsu])), (of, .inr (2, [.ref g1, .ref g2, .ref g3, .ref g4, .ref g5, .int (nI on), .ref g6, .ref g7, .ref g8])), (g6, .inl (E.2.1 0, 4, .inl d6)), (g7, .inl (E.2.1 0, 4, .inl d7))] := hD
  refine lv_if_eq (tgt := 28) hx hb dX11_crew_5 (by decide) (fun c_3 => ?_) (fun c_3 => ?_)
  · have b_4 : inR cr 0 3 = false := bz hw_2 c_3
    refine lv_bipush (v := (-2)) hx hb dX11_crew_28 (by decide) ?_
    have hP9 := hP.sub (ws' := [(h0, .inr (11, [.ref tp, .ref rd, .ref se, .ref ba, .ref of, .ref pl, .ref sr, .ref sc, .int wk])), (pl, .inr (5, [.ref of, .ref k1, .ref k2, .ref k3, .ref k4, .int md, .int dn, .int fsu])), (of, .inr (2, [.ref g1, .ref g2, .ref g3, .ref g4, .ref g5, .int (nI on), .ref g6, .ref g7, .ref g8])), (g6, .inl (E.2.1 0, 4, .inl d6)), (g7, .inl (E.2.1 0, 4, .inl d7))]) [0, 1, 2, 3, 4] rfl
    have hD9 := hD.sub (ws' := [(h0, .inr (11, [.ref tp, .ref rd, .ref se, .ref ba, .ref of, .ref pl, .ref sr, .ref sc, .int wk])), (pl, .inr (5, [.ref of, .ref k1, .ref k2, .ref k3, .ref k4, .int md, .int dn, .int fsu])), (of, .inr (2, [.ref g1, .ref g2, .ref g3, .ref g4, .ref g5, .int (nI on), .ref g6, .ref g7, .ref g8])), (g6, .inl (E.2.1 0, 4, .inl d6)), (g7, .inl (E.2.1 0, 4, .inl d7))]) [0, 1, 2, 3, 4] (by decide) rfl
    exact W.iret (v := (-2)) hx hb hr (fun t ht hW => ⟨⟨(-2), (md, d6, d7), rfl, (by first | (rw [b_4]; done) | (rw [b_4]; rfl)), by rw [ht]; exact hP9, hD9⟩, hS.F ht⟩) hS.2.2 dX11_crew_30
  · have b_5 : inR cr 0 3 = true := bn hw_2 c_3
    refine lv_iload_n hx hb dX11_crew_8 rfl (lv_at hl 2 rfl) ?_
    refine lv_bipush (v := 10) hx hb dX11_crew_9 (by decide) ?_
    have hPc := hP.sub (ws' := []) [] rfl
    have hDc := hD.sub (ws' := []) [] (by decide) rfl
    have hFc := va_free (wc := []) hD hS hA [] rfl
    refine va_calli (va_runS (As := [.int port, .int 10]) (rest := []) ⟨hx, hb, hml, hown, hts⟩ (c_X11_below l E port 10 9 H.size (lt_le (by decide))) (va_cwS 2 hts gX11_crew_X11_below rfl rfl rfl hdS_X11_below ⟨Nat.le_of_ble_eq_true rfl, Nat.le_of_ble_eq_true rfl⟩) ⟨pcW_blind, (pcW_pre hPc hkn hDc hst hS hFc)⟩ rfl rfl hl.1 rfl (lv_room (Nat.le_of_ble_eq_true rfl)) dX11_crew_11 ⟨Nat.le_of_ble_eq_true rfl, Nat.le_of_ble_eq_true rfl⟩) hS (fun q _ h => hFc q h) hFc (fun r_6 u t H1 locs ht hvm hw_7 hB hz1 hk1 hS => ?_)
    obtain ⟨hP1, hD1⟩ := hB
    rw [ht] at hP1
    try dsimp only at hw_7
    obtain ⟨hP, hD⟩ := va_join (wr := [(h0, .inr (11, [.ref tp, .ref rd, .ref se, .ref ba, .ref of, .ref pl, .ref sr, .ref sc, .int wk])), (pl, .inr (5, [.ref of, .ref k1, .ref k2, .ref k3, .ref k4, .int md, .int dn, .int fsu])), (of, .inr (2, [.ref g1, .ref g2, .ref g3, .ref g4, .ref g5, .int (nI on), .ref g6, .ref g7, .ref g8])), (g6, .inl (E.2.1 0, 4, .inl d6)), (g7, .inl (E.2.1 0, 4, .inl d7))]) (w1 := []) hP hD [] [0, 1, 2, 3, 4] rfl rfl (by decide) (by decide) hk1 hFc hP1 hD1
    generalize H1 = H at hP hS ⊢
    have hP : va_P E.1 vwCl [(h0, .inr (11, [.ref tp, .ref rd, .ref se, .ref ba, .ref of, .ref pl, .ref sr, .ref sc, .int wk])), (pl, .inr (5, [.ref of, .ref k1, .ref k2, .ref k3, .ref k4, .int md, .int dn, .int fsu])), (of, .inr (2, [.ref g1, .ref g2, .ref g3, .ref g4, .ref g5, .int (nI on), .ref g6, .ref g7, .ref g8])), (g6, .inl (E.2.1 0, 4, .inl d6)), (g7, .inl (E.2.1 0, 4, .inl d7))] H := hP
    have hD : va_D A [(h0, .inr (11, [.ref tp, .ref rd, .ref se, .ref ba, .ref of, .ref pl, .ref sr, .ref sc, .int wk])), (pl, .inr (5, [.ref of, .ref k1, .ref k2, .ref k3, .ref k4, .int md, .int dn, .int fsu])), (of, .inr (2, [.ref g1, .ref g2, .ref g3, .ref g4, .ref g5, .int (nI on), .ref g6, .ref g7, .ref g8])), (g6, .inl (E.2.1 0, 4, .inl d6)), (g7, .inl (E.2.1 0, 4, .inl d7))] := hD
    refine lv_if_eq (tgt := 28) hx hb dX11_crew_14 (by decide) (fun c_8 => ?_) (fun c_8 => ?_)
    · have b_9 : inR port 0 9 = false := bz hw_7 c_8
      refine lv_bipush (v := (-2)) hx hb dX11_crew_28 (by decide) ?_
      have hP9 := hP.sub (ws' := [(h0, .inr (11, [.ref tp, .ref rd, .ref se, .ref ba, .ref of, .ref pl, .ref sr, .ref sc, .int wk])), (pl, .inr (5, [.ref of, .ref k1, .ref k2, .ref k3, .ref k4, .int md, .int dn, .int fsu])), (of, .inr (2, [.ref g1, .ref g2, .ref g3, .ref g4, .ref g5, .int (nI on), .ref g6, .ref g7, .ref g8])), (g6, .inl (E.2.1 0, 4, .inl d6)), (g7, .inl (E.2.1 0, 4, .inl d7))]) [0, 1, 2, 3, 4] rfl
      have hD9 := hD.sub (ws' := [(h0, .inr (11, [.ref tp, .ref rd, .ref se, .ref ba, .ref of, .ref pl, .ref sr, .ref sc, .int wk])), (pl, .inr (5, [.ref of, .ref k1, .ref k2, .ref k3, .ref k4, .int md, .int dn, .int fsu])), (of, .inr (2, [.ref g1, .ref g2, .ref g3, .ref g4, .ref g5, .int (nI on), .ref g6, .ref g7, .ref g8])), (g6, .inl (E.2.1 0, 4, .inl d6)), (g7, .inl (E.2.1 0, 4, .inl d7))]) [0, 1, 2, 3, 4] (by decide) rfl
      exact W.iret (v := (-2)) hx hb hr (fun t ht hW => ⟨⟨(-2), (md, d6, d7), rfl, (by first | (rw [b_5, b_9]; done) | (rw [b_5, b_9]; rfl)), by rw [ht]; exact hP9, hD9⟩, hS.F ht⟩) hS.2.2 dX11_crew_30
    · have b_10 : inR port 0 9 = true := bn hw_7 c_8
      refine lv_iload_n hx hb dX11_crew_17 rfl (lv_at hl 3 rfl) ?_
      refine lv_iconst (v := 0) hx hb dX11_crew_18 (by decide) ?_
      refine lv_sipush (v := 999) hx hb dX11_crew_19 (by decide) ?_
      have hPc := hP.sub (ws' := []) [] rfl
      have hDc := hD.sub (ws' := []) [] (by decide) rfl
      have hFc := va_free (wc := []) hD hS hA [] rfl
      refine va_calli (va_runS (As := [.int day, .int 0, .int 999]) (rest := []) ⟨hx, hb, hml, hown, hts⟩ (c_X11_within l E day 0 999 H.size ) (va_cwS 3 hts gX11_crew_X11_within rfl rfl rfl hdS_X11_within ⟨Nat.le_of_ble_eq_true rfl, Nat.le_of_ble_eq_true rfl⟩) ⟨pcW_blind, (pcW_pre hPc hkn hDc hst hS hFc)⟩ rfl rfl hl.1 rfl (lv_room (Nat.le_of_ble_eq_true rfl)) dX11_crew_22 ⟨Nat.le_of_ble_eq_true rfl, Nat.le_of_ble_eq_true rfl⟩) hS (fun q _ h => hFc q h) hFc (fun r_11 u t H1 locs ht hvm hw_12 hB hz1 hk1 hS => ?_)
      obtain ⟨hP1, hD1⟩ := hB
      rw [ht] at hP1
      try dsimp only at hw_12
      obtain ⟨hP, hD⟩ := va_join (wr := [(h0, .inr (11, [.ref tp, .ref rd, .ref se, .ref ba, .ref of, .ref pl, .ref sr, .ref sc, .int wk])), (pl, .inr (5, [.ref of, .ref k1, .ref k2, .ref k3, .ref k4, .int md, .int dn, .int fsu])), (of, .inr (2, [.ref g1, .ref g2, .ref g3, .ref g4, .ref g5, .int (nI on), .ref g6, .ref g7, .ref g8])), (g6, .inl (E.2.1 0, 4, .inl d6)), (g7, .inl (E.2.1 0, 4, .inl d7))]) (w1 := []) hP hD [] [0, 1, 2, 3, 4] rfl rfl (by decide) (by decide) hk1 hFc hP1 hD1
      generalize H1 = H at hP hS ⊢
      have hP : va_P E.1 vwCl [(h0, .inr (11, [.ref tp, .ref rd, .ref se, .ref ba, .ref of, .ref pl, .ref sr, .ref sc, .int wk])), (pl, .inr (5, [.ref of, .ref k1, .ref k2, .ref k3, .ref k4, .int md, .int dn, .int fsu])), (of, .inr (2, [.ref g1, .ref g2, .ref g3, .ref g4, .ref g5, .int (nI on), .ref g6, .ref g7, .ref g8])), (g6, .inl (E.2.1 0, 4, .inl d6)), (g7, .inl (E.2.1 0, 4, .inl d7))] H := hP
      have hD : va_D A [(h0, .inr (11, [.ref tp, .ref rd, .ref se, .ref ba, .ref of, .ref pl, .ref sr, .ref sc, .int wk])), (pl, .inr (5, [.ref of, .ref k1, .ref k2, .ref k3, .ref k4, .int md, .int dn, .int fsu])), (of, .inr (2, [.ref g1, .ref g2, .ref g3, .ref g4, .ref g5, .int (nI on), .ref g6, .ref g7, .ref g8])), (g6, .inl (E.2.1 0, 4, .inl d6)), (g7, .inl (E.2.1 0, 4, .inl d7))] := hD
      refine lv_if_ne (tgt := 31) hx hb dX11_crew_25 (by decide) (fun c_13 => ?_) (fun c_13 => ?_)
      · have b_14 : inR day 0 999 = true := bn hw_12 c_13
        refine lv_aload_n hx hb dX11_crew_31 rfl (lv_at hl 0 rfl) ?_
        refine va_get (D := E.1) (ci := 11) (v := .ref pl) (C := RX11) (T := TX11) (N := 9) hx hb hts inX11 hown hK hP 0 rfl rfl 5 (by decide) fl51 (fun _ h9 => h9) rfl dX11_crew_32 ?_
        refine lv_iconst (v := 0) hx hb dX11_crew_35 (by decide) ?_
        refine va_put (D := E.1) (ci := 5) (v := .int 0) (ty := .boolean) (C := RX5) (T := TX5) (N := 8) hx hb hts inX5 tyX5 tyX5_ok nmX5 hown hK hP hD hS 1 rfl rfl 5 (by decide) fl198 (fun _ h9 => h9) rfl (by decide +kernel) (by first | rfl | decide) (by first | rfl | decide) (Nat.le_of_ble_eq_true rfl) dX11_crew_36 (fun H locs hP hD hS => ?_)
        have hP : va_P E.1 vwCl [(h0, .inr (11, [.ref tp, .ref rd, .ref se, .ref ba, .ref of, .ref pl, .ref sr, .ref sc, .int wk])), (pl, .inr (5, [.ref of, .ref k1, .ref k2, .ref k3, .ref k4, .int 0, .int dn, .int fsu])), (of, .inr (2, [.ref g1, .ref g2, .ref g3, .ref g4, .ref g5, .int (nI on), .ref g6, .ref g7, .ref g8])), (g6, .inl (E.2.1 0, 4, .inl d6)), (g7, .inl (E.2.1 0, 4, .inl d7))] H := hP
        have hD : va_D A [(h0, .inr (11, [.ref tp, .ref rd, .ref se, .ref ba, .ref of, .ref pl, .ref sr, .ref sc, .int wk])), (pl, .inr (5, [.ref of, .ref k1, .ref k2, .ref k3, .ref k4, .int 0, .int dn, .int fsu])), (of, .inr (2, [.ref g1, .ref g2, .ref g3, .ref g4, .ref g5, .int (nI on), .ref g6, .ref g7, .ref g8])), (g6, .inl (E.2.1 0, 4, .inl d6)), (g7, .inl (E.2.1 0, 4, .inl d7))] := hD
        refine lv_aload_n hx hb dX11_crew_39 rfl (lv_at hl 0 rfl) ?_
        refine va_get (D := E.1) (ci := 11) (v := .ref of) (C := RX11) (T := TX11) (N := 9) hx hb hts inX11 hown hK hP 0 rfl rfl 4 (by decide) fl42 (fun _ h9 => h9) rfl dX11_crew_40 ?_
        refine va_get (D := E.1) (ci := 2) (v := .ref g6) (C := RX2) (T := TX2) (N := 9) hx hb hts inX2 hown hK hP 2 rfl rfl 6 (by decide) fl206 (fun _ h9 => h9) rfl dX11_crew_43 ?_
        refine lv_iload_n hx hb dX11_crew_46 rfl (lv_at hl 1 rfl) ?_
        refine lv_iload_n hx hb dX11_crew_47 rfl (lv_at hl 2 rfl) ?_
        have hi_15 : vp_in cr 4 := inR_in (by decide) b_5
        refine va_iast hx hb hK hP hD hS 3 0 rfl rfl hi_15 dX11_crew_48 (fun H locs hP hD hS => ?_)
        have hP : va_P E.1 vwCl [(h0, .inr (11, [.ref tp, .ref rd, .ref se, .ref ba, .ref of, .ref pl, .ref sr, .ref sc, .int wk])), (pl, .inr (5, [.ref of, .ref k1, .ref k2, .ref k3, .ref k4, .int 0, .int dn, .int fsu])), (of, .inr (2, [.ref g1, .ref g2, .ref g3, .ref g4, .ref g5, .int (nI on), .ref g6, .ref g7, .ref g8])), (g6, .inl (E.2.1 0, 4, .inl (upd d6 cr.toNatClampNeg port))), (g7, .inl (E.2.1 0, 4, .inl d7))] H := hP
        have hD : va_D A [(h0, .inr (11, [.ref tp, .ref rd, .ref se, .ref ba, .ref of, .ref pl, .ref sr, .ref sc, .int wk])), (pl, .inr (5, [.ref of, .ref k1, .ref k2, .ref k3, .ref k4, .int 0, .int dn, .int fsu])), (of, .inr (2, [.ref g1, .ref g2, .ref g3, .ref g4, .ref g5, .int (nI on), .ref g6, .ref g7, .ref g8])), (g6, .inl (E.2.1 0, 4, .inl (upd d6 cr.toNatClampNeg port))), (g7, .inl (E.2.1 0, 4, .inl d7))] := hD
        obtain ⟨f_16, ef_16⟩ : ∃ g : Nat → Int32, g = upd d6 cr.toNatClampNeg port := ⟨_, rfl⟩
        rw [← ef_16] at hP hD
        refine lv_aload_n hx hb dX11_crew_49 rfl (lv_at hl 0 rfl) ?_
        refine va_get (D := E.1) (ci := 11) (v := .ref of) (C := RX11) (T := TX11) (N := 9) hx hb hts inX11 hown hK hP 0 rfl rfl 4 (by decide) fl42 (fun _ h9 => h9) rfl dX11_crew_50 ?_
        refine va_get (D := E.1) (ci := 2) (v := .ref g7) (C := RX2) (T := TX2) (N := 9) hx hb hts inX2 hown hK hP 2 rfl rfl 7 (by decide) fl209 (fun _ h9 => h9) rfl dX11_crew_53 ?_
        refine lv_iload_n hx hb dX11_crew_56 rfl (lv_at hl 1 rfl) ?_
        refine lv_iload_n hx hb dX11_crew_57 rfl (lv_at hl 3 rfl) ?_
        refine va_iast hx hb hK hP hD hS 4 0 rfl rfl hi_15 dX11_crew_58 (fun H locs hP hD hS => ?_)
        have hP : va_P E.1 vwCl [(h0, .inr (11, [.ref tp, .ref rd, .ref se, .ref ba, .ref of, .ref pl, .ref sr, .ref sc, .int wk])), (pl, .inr (5, [.ref of, .ref k1, .ref k2, .ref k3, .ref k4, .int 0, .int dn, .int fsu])), (of, .inr (2, [.ref g1, .ref g2, .ref g3, .ref g4, .ref g5, .int (nI on), .ref g6, .ref g7, .ref g8])), (g6, .inl (E.2.1 0, 4, .inl f_16)), (g7, .inl (E.2.1 0, 4, .inl (upd d7 cr.toNatClampNeg day)))] H := hP
        have hD : va_D A [(h0, .inr (11, [.ref tp, .ref rd, .ref se, .ref ba, .ref of, .ref pl, .ref sr, .ref sc, .int wk])), (pl, .inr (5, [.ref of, .ref k1, .ref k2, .ref k3, .ref k4, .int 0, .int dn, .int fsu])), (of, .inr (2, [.ref g1, .ref g2, .ref g3, .ref g4, .ref g5, .int (nI on), .ref g6, .ref g7, .ref g8])), (g6, .inl (E.2.1 0, 4, .inl f_16)), (g7, .inl (E.2.1 0, 4, .inl (upd d7 cr.toNatClampNeg day)))] := hD
        obtain ⟨f_17, ef_17⟩ : ∃ g : Nat → Int32, g = upd d7 cr.toNatClampNeg day := ⟨_, rfl⟩
        rw [← ef_17] at hP hD
        refine lv_iconst (v := 1) hx hb dX11_crew_59 (by decide) ?_
        have hP9 := hP.sub (ws' := [(h0, .inr (11, [.ref tp, .ref rd, .ref se, .ref ba, .ref of, .ref pl, .ref sr, .ref sc, .int wk])), (pl, .inr (5, [.ref of, .ref k1, .ref k2, .ref k3, .ref k4, .int 0, .int dn, .int fsu])), (of, .inr (2, [.ref g1, .ref g2, .ref g3, .ref g4, .ref g5, .int (nI on), .ref g6, .ref g7, .ref g8])), (g6, .inl (E.2.1 0, 4, .inl f_16)), (g7, .inl (E.2.1 0, 4, .inl f_17))]) [0, 1, 2, 3, 4] rfl
        have hD9 := hD.sub (ws' := [(h0, .inr (11, [.ref tp, .ref rd, .ref se, .ref ba, .ref of, .ref pl, .ref sr, .ref sc, .int wk])), (pl, .inr (5, [.ref of, .ref k1, .ref k2, .ref k3, .ref k4, .int 0, .int dn, .int fsu])), (of, .inr (2, [.ref g1, .ref g2, .ref g3, .ref g4, .ref g5, .int (nI on), .ref g6, .ref g7, .ref g8])), (g6, .inl (E.2.1 0, 4, .inl f_16)), (g7, .inl (E.2.1 0, 4, .inl f_17))]) [0, 1, 2, 3, 4] (by decide) rfl
        exact W.iret (v := 1) hx hb hr (fun t ht hW => ⟨⟨1, (0, f_16, f_17), rfl, (by first | (rw [b_5, b_10, b_14]; done) | (rw [b_5, b_10, b_14]; rfl)), by rw [ht]; exact hP9, hD9⟩, hS.F ht⟩) hS.2.2 dX11_crew_60
      · have b_18 : inR day 0 999 = false := bz hw_12 c_13
        refine lv_bipush (v := (-2)) hx hb dX11_crew_28 (by decide) ?_
        have hP9 := hP.sub (ws' := [(h0, .inr (11, [.ref tp, .ref rd, .ref se, .ref ba, .ref of, .ref pl, .ref sr, .ref sc, .int wk])), (pl, .inr (5, [.ref of, .ref k1, .ref k2, .ref k3, .ref k4, .int md, .int dn, .int fsu])), (of, .inr (2, [.ref g1, .ref g2, .ref g3, .ref g4, .ref g5, .int (nI on), .ref g6, .ref g7, .ref g8])), (g6, .inl (E.2.1 0, 4, .inl d6)), (g7, .inl (E.2.1 0, 4, .inl d7))]) [0, 1, 2, 3, 4] rfl
        have hD9 := hD.sub (ws' := [(h0, .inr (11, [.ref tp, .ref rd, .ref se, .ref ba, .ref of, .ref pl, .ref sr, .ref sc, .int wk])), (pl, .inr (5, [.ref of, .ref k1, .ref k2, .ref k3, .ref k4, .int md, .int dn, .int fsu])), (of, .inr (2, [.ref g1, .ref g2, .ref g3, .ref g4, .ref g5, .int (nI on), .ref g6, .ref g7, .ref g8])), (g6, .inl (E.2.1 0, 4, .inl d6)), (g7, .inl (E.2.1 0, 4, .inl d7))]) [0, 1, 2, 3, 4] (by decide) rfl
        exact W.iret (v := (-2)) hx hb hr (fun t ht hW => ⟨⟨(-2), (md, d6, d7), rfl, (by first | (rw [b_5, b_10, b_18]; done) | (rw [b_5, b_10, b_18]; rfl)), by rw [ht]; exact hP9, hD9⟩, hS.F ht⟩) hS.2.2 dX11_crew_30
