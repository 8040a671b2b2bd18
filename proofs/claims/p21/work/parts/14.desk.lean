set_option maxHeartbeats 4000000 in
set_option maxRecDepth 100000 in
theorem c_X11_water (l : Launch) (E : vE) (h0 : Nat) (tp : Nat) (rd : Nat) (se : Nat) (ba : Nat) (of : Nat) (pl : Nat) (sr : Nat) (sc : Nat) (wk : Int32) (bo_ : Nat) (sp : Nat) (pa : Nat) (ru : Nat) (co : Nat) (tr : Nat) (lt : Int32) (fb : Nat → Option Nat) (b : Int32) (litres : Int32) (sz : Nat) (hfb : inR b 0 5 = true → fb b.toNatClampNeg = some bo_) : Met l yX11_water wsX11_water ({ frames := 2, cells := 0, slots := 0, locals := 40 }) (pcW E [.ref h0, .int b, .int litres] sz [(h0, .inr (11, [.ref tp, .ref rd, .ref se, .ref ba, .ref of, .ref pl, .ref sr, .ref sc, .int wk])), (ba, .inl (E.2.1 4, 6, .inr (.inr (.inr (.inr fb))))), (bo_, .inr (0, [.ref sp, .ref pa, .int lt, .ref ru, .ref co, .ref tr]))]) (va_Qi (fun (r : Int32) (lt2 : Int32) => True) (fun (lt2 : Int32) (t : State) => wB E (va_A [(h0, .inr (11, [.ref tp, .ref rd, .ref se, .ref ba, .ref of, .ref pl, .ref sr, .ref sc, .int wk])), (ba, .inl (E.2.1 4, 6, .inr (.inr (.inr (.inr fb))))), (bo_, .inr (0, [.ref sp, .ref pa, .int lt, .ref ru, .ref co, .ref tr]))] sz) [(h0, .inr (11, [.ref tp, .ref rd, .ref se, .ref ba, .ref of, .ref pl, .ref sr, .ref sc, .int wk])), (ba, .inl (E.2.1 4, 6, .inr (.inr (.inr (.inr fb))))), (bo_, .inr (0, [.ref sp, .ref pa, .int lt2, .ref ru, .ref co, .ref tr]))] t) (va_A [(h0, .inr (11, [.ref tp, .ref rd, .ref se, .ref ba, .ref of, .ref pl, .ref sr, .ref sc, .int wk])), (ba, .inl (E.2.1 4, 6, .inr (.inr (.inr (.inr fb))))), (bo_, .inr (0, [.ref sp, .ref pa, .int lt, .ref ru, .ref co, .ref tr]))] sz)) 0 0 (va_A [(h0, .inr (11, [.ref tp, .ref rd, .ref se, .ref ba, .ref of, .ref pl, .ref sr, .ref sc, .int wk])), (ba, .inl (E.2.1 4, 6, .inr (.inr (.inr (.inr fb))))), (bo_, .inr (0, [.ref sp, .ref pa, .int lt, .ref ru, .ref co, .ref tr]))] sz) := by
  refine Met.ofW (cc := cX11_water) (maxL := 4) (ret := (some .int)) (by decide) rfl ?_
  intro p e s m args below meth c s₁ B hml hv
  obtain ⟨rfl, hsz, hP, hkn, hD0, hst⟩ := hv
  have hx := B.exec
  have hb := B.bytes
  have hr := B.returns
  have hts := atoms_spec (ws := wsX11_water) B.pre
  have hown : s.vm.findClass RX11 = some m.cls := findClass_of_methodNamed B.named
  have hlocks := B.notSynchronized
  subst hsz
  have hD := hD0.self (sz := s.heap.size)
  have hK := hkn.1
  have hAO := hkn.2.2.1
  generalize hAe : va_A [(h0, .inr (11, [.ref tp, .ref rd, .ref se, .ref ba, .ref of, .ref pl, .ref sr, .ref sc, .int wk])), (ba, .inl (E.2.1 4, 6, .inr (.inr (.inr (.inr fb))))), (bo_, .inr (0, [.ref sp, .ref pa, .int lt, .ref ru, .ref co, .ref tr]))] s.heap.size = A at hD hst ⊢
  have hA : ∀ q : Nat, s.heap.size ≤ q → A q := fun q h => by rw [← hAe]; exact Or.inr h
  have hS : va_S A s.heap s.heap [] := va_S.rf
  have hP : va_P E.1 vwCl [(h0, .inr (11, [.ref tp, .ref rd, .ref se, .ref ba, .ref of, .ref pl, .ref sr, .ref sc, .int wk])), (ba, .inl (E.2.1 4, 6, .inr (.inr (.inr (.inr fb))))), (bo_, .inr (0, [.ref sp, .ref pa, .int lt, .ref ru, .ref co, .ref tr]))] s.heap := hP
  have hl := lv_entry ([.ref h0, .int b, .int litres]) (n := 4) (Nat.le_of_ble_eq_true rfl)
  rw [lg_entry_eq]
  generalize (lg_sl ([.ref h0, .int b, .int litres]) ++ List.replicate (4 - (lg_sl ([.ref h0, .int b, .int litres])).length) Slot.unset).toArray = ls at hl ⊢
  have hl : lv_has ls 4 [(0, .ref h0), (1, .int b), (2, .int litres)] := hl
  have fl34 := hts (.fieldLink RX11 34 "BoatsHome" "boats" "[LBoatsHome$Boat;") (by first | exact List.mem_of_getElem? (i := 1) rfl | decide +kernel)
  have fl102 := hts (.fieldLink RX11 102 "BoatsHome$Boat" "litres" "I") (by first | exact List.mem_of_getElem? (i := 2) rfl | decide +kernel)
  have inX0 : ∀ w ∈ u_ws RX0 TX0 6, w ∈ wsX11_water := by first | exact fun w h9 => (List.mem_cons_of_mem _ (List.mem_append_right _ h9)) | decide +kernel
  have inX11 : ∀ w ∈ u_ws RX11 TX11 9, w ∈ wsX11_water := by first | exact fun w h9 => (List.mem_cons_of_mem _ (List.mem_append_left _ (List.mem_append_right _ h9))) | decide +kernel
  refine lv_iload_n hx hb dX11_water_0 rfl (lv_at hl 1 rfl) ?_
  refine lv_bipush (v := 6) hx hb dX11_water_1 (by decide) ?_
  have hPc := hP.sub (ws' := []) [] rfl
  have hDc := hD.sub (ws' := []) [] (by decide) rfl
  have hFc := va_free (wc := []) hD hS hA [] rfl
  refine va_calli (va_runS (As := [.int b, .int 6]) (rest := []) ⟨hx, hb, hml, hown, hts⟩ (c_X11_below l E b 6 5 s.heap.size (lt_le (by decide))) (va_cwS 2 hts gX11_water_X11_below rfl rfl rfl hdS_X11_below ⟨Nat.le_of_ble_eq_true rfl, Nat.le_of_ble_eq_true rfl⟩) ⟨pcW_blind, (pcW_pre hPc hkn hDc hst hS hFc)⟩ rfl rfl hl.1 rfl (lv_room (Nat.le_of_ble_eq_true rfl)) dX11_water_3 ⟨Nat.le_of_ble_eq_true rfl, Nat.le_of_ble_eq_true rfl⟩) hS (fun q _ h => hFc q h) hFc (fun r_1 u t H1 locs ht hvm hw_2 hB hz1 hk1 hS => ?_)
  obtain ⟨hP1, hD1⟩ := hB
  rw [ht] at hP1
  try dsimp only at hw_2
  obtain ⟨hP, hD⟩ := va_join (wr := [(h0, .inr (11, [.ref tp, .ref rd, .ref se, .ref ba, .ref of, .ref pl, .ref sr, .ref sc, .int wk])), (ba, .inl (E.2.1 4, 6, .inr (.inr (.inr (.inr fb))))), (bo_, .inr (0, [.ref sp, .ref pa, .int lt, .ref ru, .ref co, .ref tr]))]) (w1 := []) hP hD [] [0, 1, 2] rfl rfl (by decide) (by decide) hk1 hFc hP1 hD1
  generalize H1 = H at hP hS ⊢
  have hP : va_P E.1 vwCl [(h0, .inr (11, [.ref tp, .ref rd, .ref se, .ref ba, .ref of, .ref pl, .ref sr, .ref sc, .int wk])), (ba, .inl (E.2.1 4, 6, .inr (.inr (.inr (.inr fb))))), (bo_, .inr (0, [.ref sp, .ref pa, .int lt, .ref ru, .ref co, .ref tr]))] H := hP
  have hD : va_D A [(h0, .inr (11, [.ref tp, .ref rd, .ref se, .ref ba, .ref of, .ref pl, .ref sr, .ref sc, .int wk])), (ba, .inl (E.2.1 4, 6, .inr (.inr (.inr (.inr fb))))), (bo_, .inr (0, [.ref sp, .ref pa, .int lt, .ref ru, .ref co, .ref tr]))] := hD
  refine lv_if_eq (tgt := 20) hx hb dX11_water_6 (by decide) (fun c_3 => ?_) (fun c_3 => ?_)
  · have b_4 : inR b 0 5 = false := bz hw_2 c_3
    refine lv_bipush (v := (-2)) hx hb dX11_water_20 (by decide) ?_
    have hP9 := hP.sub (ws' := [(h0, .inr (11, [.ref tp, .ref rd, .ref se, .ref ba, .ref of, .ref pl, .ref sr, .ref sc, .int wk])), (ba, .inl (E.2.1 4, 6, .inr (.inr (.inr (.inr fb))))), (bo_, .inr (0, [.ref sp, .ref pa, .int lt, .ref ru, .ref co, .ref tr]))]) [0, 1, 2] rfl
    have hD9 := hD.sub (ws' := [(h0, .inr (11, [.ref tp, .ref rd, .ref se, .ref ba, .ref of, .ref pl, .ref sr, .ref sc, .int wk])), (ba, .inl (E.2.1 4, 6, .inr (.inr (.inr (.inr fb))))), (bo_, .inr (0, [.ref sp, .ref pa, .int lt, .ref ru, .ref co, .ref tr]))]) [0, 1, 2] (by decide) rfl
    exact W.iret (v := (-2)) hx hb hr (fun t ht hW => ⟨⟨(-2), lt, rfl, trivial, by rw [ht]; exact hP9, hD9⟩, hS.F ht⟩) hS.2.2 dX11_water_22
  · have b_5 : inR b 0 5 = true := bn hw_2 c_3
    refine lv_iload_n hx hb dX11_water_9 rfl (lv_at hl 2 rfl) ?_
    refine lv_iconst (v := 0) hx hb dX11_water_10 (by decide) ?_
    refine lv_sipush (v := 10000) hx hb dX11_water_11 (by decide) ?_
    have hPc := hP.sub (ws' := []) [] rfl
    have hDc := hD.sub (ws' := []) [] (by decide) rfl
    have hFc := va_free (wc := []) hD hS hA [] rfl
    refine va_calli (va_runS (As := [.int litres, .int 0, .int 10000]) (rest := []) ⟨hx, hb, hml, hown, hts⟩ (c_X11_within l E litres 0 10000 H.size ) (va_cwS 3 hts gX11_water_X11_within rfl rfl rfl hdS_X11_within ⟨Nat.le_of_ble_eq_true rfl, Nat.le_of_ble_eq_true rfl⟩) ⟨pcW_blind, (pcW_pre hPc hkn hDc hst hS hFc)⟩ rfl rfl hl.1 rfl (lv_room (Nat.le_of_ble_eq_true rfl)) dX11_water_14 ⟨Nat.le_of_ble_eq_true rfl, Nat.le_of_ble_eq_true rfl⟩) hS (fun q _ h => hFc q h) hFc (fun r_6 u t H1 locs ht hvm hw_7 hB hz1 hk1 hS => ?_)
    obtain ⟨hP1, hD1⟩ := hB
    rw [ht] at hP1
    try dsimp only at hw_7
    obtain ⟨hP, hD⟩ := va_join (wr := [(h0, .inr (11, [.ref tp, .ref rd, .ref se, .ref ba, .ref of, .ref pl, .ref sr, .ref sc, .int wk])), (ba, .inl (E.2.1 4, 6, .inr (.inr (.inr (.inr fb))))), (bo_, .inr (0, [.ref sp, .ref pa, .int lt, .ref ru, .ref co, .ref tr]))]) (w1 := []) hP hD [] [0, 1, 2] rfl rfl (by decide) (by decide) hk1 hFc hP1 hD1
    generalize H1 = H at hP hS ⊢
    have hP : va_P E.1 vwCl [(h0, .inr (11, [.ref tp, .ref rd, .ref se, .ref ba, .ref of, .ref pl, .ref sr, .ref sc, .int wk])), (ba, .inl (E.2.1 4, 6, .inr (.inr (.inr (.inr fb))))), (bo_, .inr (0, [.ref sp, .ref pa, .int lt, .ref ru, .ref co, .ref tr]))] H := hP
    have hD : va_D A [(h0, .inr (11, [.ref tp, .ref rd, .ref se, .ref ba, .ref of, .ref pl, .ref sr, .ref sc, .int wk])), (ba, .inl (E.2.1 4, 6, .inr (.inr (.inr (.inr fb))))), (bo_, .inr (0, [.ref sp, .ref pa, .int lt, .ref ru, .ref co, .ref tr]))] := hD
    refine lv_if_ne (tgt := 23) hx hb dX11_water_17 (by decide) (fun c_8 => ?_) (fun c_8 => ?_)
    · have b_9 : inR litres 0 10000 = true := bn hw_7 c_8
      refine lv_aload_n hx hb dX11_water_23 rfl (lv_at hl 0 rfl) ?_
      refine va_get (D := E.1) (ci := 11) (v := .ref ba) (C := RX11) (T := TX11) (N := 9) hx hb hts inX11 hown hK hP 0 rfl rfl 3 (by decide) fl34 (fun _ h9 => h9) rfl dX11_water_24 ?_
      refine lv_iload_n hx hb dX11_water_27 rfl (lv_at hl 1 rfl) ?_
      have hi_10 : vp_in b 6 := inR_in (by decide) b_5
      refine va_aldq hx hb hK hP 1 4 rfl rfl hi_10 dX11_water_28 ?_
      rw [show va_rf (fb b.toNatClampNeg) = .ref bo_ from by rw [hfb b_5]; rfl]
      refine va_get (D := E.1) (ci := 0) (v := .int lt) (C := RX0) (T := TX0) (N := 6) hx hb hts inX0 hown hK hP 2 rfl rfl 2 (by decide) fl102 (fun _ h9 => h9) rfl dX11_water_29 ?_
      refine lv_istore_n (lv' := [(3, .int lt), (0, .ref h0), (1, .int b), (2, .int litres)]) hx hb dX11_water_32 rfl hl (by decide) rfl (fun ls hl => ?_)
      refine lv_aload_n hx hb dX11_water_33 rfl (lv_at hl 1 rfl) ?_
      refine va_get (D := E.1) (ci := 11) (v := .ref ba) (C := RX11) (T := TX11) (N := 9) hx hb hts inX11 hown hK hP 0 rfl rfl 3 (by decide) fl34 (fun _ h9 => h9) rfl dX11_water_34 ?_
      refine lv_iload_n hx hb dX11_water_37 rfl (lv_at hl 2 rfl) ?_
      refine va_aldq hx hb hK hP 1 4 rfl rfl hi_10 dX11_water_38 ?_
      rw [show va_rf (fb b.toNatClampNeg) = .ref bo_ from by rw [hfb b_5]; rfl]
      refine lv_iload_n hx hb dX11_water_39 rfl (lv_at hl 3 rfl) ?_
      refine va_put (D := E.1) (ci := 0) (v := .int litres) (ty := .int) (C := RX0) (T := TX0) (N := 6) hx hb hts inX0 tyX0 tyX0_ok nmX0 hown hK hP hD hS 2 rfl rfl 2 (by decide) fl102 (fun _ h9 => h9) rfl (by decide +kernel) rfl rfl (Nat.le_of_ble_eq_true rfl) dX11_water_40 (fun H locs hP hD hS => ?_)
      have hP : va_P E.1 vwCl [(h0, .inr (11, [.ref tp, .ref rd, .ref se, .ref ba, .ref of, .ref pl, .ref sr, .ref sc, .int wk])), (ba, .inl (E.2.1 4, 6, .inr (.inr (.inr (.inr fb))))), (bo_, .inr (0, [.ref sp, .ref pa, .int litres, .ref ru, .ref co, .ref tr]))] H := hP
      have hD : va_D A [(h0, .inr (11, [.ref tp, .ref rd, .ref se, .ref ba, .ref of, .ref pl, .ref sr, .ref sc, .int wk])), (ba, .inl (E.2.1 4, 6, .inr (.inr (.inr (.inr fb))))), (bo_, .inr (0, [.ref sp, .ref pa, .int litres, .ref ru, .ref co, .ref tr]))] := hD
      refine lv_iload_n hx hb dX11_water_43 rfl (lv_at hl 0 rfl) ?_
      have hP9 := hP.sub (ws' := [(h0, .inr (11, [.ref tp, .ref rd, .ref se, .ref ba, .ref of, .ref pl, .ref sr, .ref sc, .int wk])), (ba, .inl (E.2.1 4, 6, .inr (.inr (.inr (.inr fb))))), (bo_, .inr (0, [.ref sp, .ref pa, .int litres, .ref ru, .ref co, .ref tr]))]) [0, 1, 2] rfl
      have hD9 := hD.sub (ws' := [(h0, .inr (11, [.ref tp, .ref rd, .ref se, .ref ba, .ref of, .ref pl, .ref sr, .ref sc, .int wk])), (ba, .inl (E.2.1 4, 6, .inr (.inr (.inr (.inr fb))))), (bo_, .inr (0, [.ref sp, .ref pa, .int litres, .ref ru, .ref co, .ref tr]))]) [0, 1, 2] (by decide) rfl
      exact W.iret (v := lt) hx hb hr (fun t ht hW => ⟨⟨lt, litres, rfl, trivial, by rw [ht]; exact hP9, hD9⟩, hS.F ht⟩) hS.2.2 dX11_water_44
    · have b_11 : inR litres 0 10000 = false := bz hw_7 c_8
      refine lv_bipush (v := (-2)) hx hb dX11_water_20 (by decide) ?_
      have hP9 := hP.sub (ws' := [(h0, .inr (11, [.ref tp, .ref rd, .ref se, .ref ba, .ref of, .ref pl, .ref sr, .ref sc, .int wk])), (ba, .inl (E.2.1 4, 6, .inr (.inr (.inr (.inr fb))))), (bo_, .inr (0, [.ref sp, .ref pa, .int lt, .ref ru, .ref co, .ref tr]))]) [0, 1, 2] rfl
      have hD9 := hD.sub (ws' := [(h0, .inr (11, [.ref tp, .ref rd, .ref se, .ref ba, .ref of, .ref pl, .ref sr, .ref sc, .int wk])), (ba, .inl (E.2.1 4, 6, .inr (.inr (.inr (.inr fb))))), (bo_, .inr (0, [.ref sp, .ref pa, .int lt, .ref ru, .ref co, .ref tr]))]) [0, 1, 2] (by decide) rfl
      exact W.iret (v := (-2)) hx hb hr (fun t ht hW => ⟨⟨(-2), lt, rfl, trivial, by rw [ht]; exact hP9, hD9⟩, hS.F ht⟩) hS.2.2 dX11_water_22
set_option maxHeartbeats 4000000 in
set_option maxRecDepth 100000 in
theorem c_X11_lasts (l : Launch) (E : vE) (h0 : Nat) (tp : Nat) (rd : Nat) (se : Nat) (ba : Nat) (of : Nat) (pl : Nat) (sr : Nat) (sc : Nat) (wk : Int32) (bo_ : Nat) (sp : Nat) (pa : Nat) (ru : Nat) (co : Nat) (tr : Nat) (lt : Int32) (fb : Nat → Option Nat) (fp : Nat → Int32) (b : Int32) (part : Int32) (watches : Int32) (sz : Nat) (hfb : inR b 0 5 = true → fb b.toNatClampNeg = some bo_) : Met l yX11_lasts wsX11_lasts ({ frames := 2, cells := 0, slots := 0, locals := 40 }) (pcW E [.ref h0, .int b, .int part, .int watches] sz [(h0, .inr (11, [.ref tp, .ref rd, .ref se, .ref ba, .ref of, .ref pl, .ref sr, .ref sc, .int wk])), (ba, .inl (E.2.1 4, 6, .inr (.inr (.inr (.inr fb))))), (bo_, .inr (0, [.ref sp, .ref pa, .int lt, .ref ru, .ref co, .ref tr])), (pa, .inl (E.2.1 0, 4, .inl fp))]) (va_Qi (fun (r : Int32) (fp2 : (Nat → Int32)) => True) (fun (fp2 : (Nat → Int32)) (t : State) => wB E (va_A [(h0, .inr (11, [.ref tp, .ref rd, .ref se, .ref ba, .ref of, .ref pl, .ref sr, .ref sc, .int wk])), (ba, .inl (E.2.1 4, 6, .inr (.inr (.inr (.inr fb))))), (bo_, .inr (0, [.ref sp, .ref pa, .int lt, .ref ru, .ref co, .ref tr])), (pa, .inl (E.2.1 0, 4, .inl fp))] sz) [(h0, .inr (11, [.ref tp, .ref rd, .ref se, .ref ba, .ref of, .ref pl, .ref sr, .ref sc, .int wk])), (ba, .inl (E.2.1 4, 6, .inr (.inr (.inr (.inr fb))))), (bo_, .inr (0, [.ref sp, .ref pa, .int lt, .ref ru, .ref co, .ref tr])), (pa, .inl (E.2.1 0, 4, .inl fp2))] t) (va_A [(h0, .inr (11, [.ref tp, .ref rd, .ref se, .ref ba, .ref of, .ref pl, .ref sr, .ref sc, .int wk])), (ba, .inl (E.2.1 4, 6, .inr (.inr (.inr (.inr fb))))), (bo_, .inr (0, [.ref sp, .ref pa, .int lt, .ref ru, .ref co, .ref tr])), (pa, .inl (E.2.1 0, 4, .inl fp))] sz)) 0 0 (va_A [(h0, .inr (11, [.ref tp, .ref rd, .ref se, .ref ba, .ref of, .ref pl, .ref sr, .ref sc, .int wk])), (ba, .inl (E.2.1 4, 6, .inr (.inr (.inr (.inr fb))))), (bo_, .inr (0, [.ref sp, .ref pa, .int lt, .ref ru, .ref co, .ref tr])), (pa, .inl (E.2.1 0, 4, .inl fp))] sz) := by
  refine Met.ofW (cc := cX11_lasts) (maxL := 5) (ret := (some .int)) (by decide) rfl ?_
  intro p e s m args below meth c s₁ B hml hv
  obtain ⟨rfl, hsz, hP, hkn, hD0, hst⟩ := hv
  have hx := B.exec
  have hb := B.bytes
  have hr := B.returns
  have hts := atoms_spec (ws := wsX11_lasts) B.pre
  have hown : s.vm.findClass RX11 = some m.cls := findClass_of_methodNamed B.named
  have hlocks := B.notSynchronized
  subst hsz
  have hD := hD0.self (sz := s.heap.size)
  have hK := hkn.1
  have hAO := hkn.2.2.1
  generalize hAe : va_A [(h0, .inr (11, [.ref tp, .ref rd, .ref se, .ref ba, .ref of, .ref pl, .ref sr, .ref sc, .int wk])), (ba, .inl (E.2.1 4, 6, .inr (.inr (.inr (.inr fb))))), (bo_, .inr (0, [.ref sp, .ref pa, .int lt, .ref ru, .ref co, .ref tr])), (pa, .inl (E.2.1 0, 4, .inl fp))] s.heap.size = A at hD hst ⊢
  have hA : ∀ q : Nat, s.heap.size ≤ q → A q := fun q h => by rw [← hAe]; exact Or.inr h
  have hS : va_S A s.heap s.heap [] := va_S.rf
  have hP : va_P E.1 vwCl [(h0, .inr (11, [.ref tp, .ref rd, .ref se, .ref ba, .ref of, .ref pl, .ref sr, .ref sc, .int wk])), (ba, .inl (E.2.1 4, 6, .inr (.inr (.inr (.inr fb))))), (bo_, .inr (0, [.ref sp, .ref pa, .int lt, .ref ru, .ref co, .ref tr])), (pa, .inl (E.2.1 0, 4, .inl fp))] s.heap := hP
  have hl := lv_entry ([.ref h0, .int b, .int part, .int watches]) (n := 5) (Nat.le_of_ble_eq_true rfl)
  rw [lg_entry_eq]
  generalize (lg_sl ([.ref h0, .int b, .int part, .int watches]) ++ List.replicate (5 - (lg_sl ([.ref h0, .int b, .int part, .int watches])).length) Slot.unset).toArray = ls at hl ⊢
  have hl : lv_has ls 5 [(0, .ref h0), (1, .int b), (2, .int part), (3, .int watches)] := hl
  have fl34 := hts (.fieldLink RX11 34 "BoatsHome" "boats" "[LBoatsHome$Boat;") (by first | exact List.mem_of_getElem? (i := 1) rfl | decide +kernel)
  have fl105 := hts (.fieldLink RX11 105 "BoatsHome$Boat" "parts" "[I") (by first | exact List.mem_of_getElem? (i := 2) rfl | decide +kernel)
  have inX0 : ∀ w ∈ u_ws RX0 TX0 6, w ∈ wsX11_lasts := by first | exact fun w h9 => (List.mem_cons_of_mem _ (List.mem_append_right _ h9)) | decide +kernel
  have inX11 : ∀ w ∈ u_ws RX11 TX11 9, w ∈ wsX11_lasts := by first | exact fun w h9 => (List.mem_cons_of_mem _ (List.mem_append_left _ (List.mem_append_right _ h9))) | decide +kernel
  refine lv_iload_n hx hb dX11_lasts_0 rfl (lv_at hl 1 rfl) ?_
  refine lv_bipush (v := 6) hx hb dX11_lasts_1 (by decide) ?_
  have hPc := hP.sub (ws' := []) [] rfl
  have hDc := hD.sub (ws' := []) [] (by decide) rfl
  have hFc := va_free (wc := []) hD hS hA [] rfl
  refine va_calli (va_runS (As := [.int b, .int 6]) (rest := []) ⟨hx, hb, hml, hown, hts⟩ (c_X11_below l E b 6 5 s.heap.size (lt_le (by decide))) (va_cwS 2 hts gX11_lasts_X11_below rfl rfl rfl hdS_X11_below ⟨Nat.le_of_ble_eq_true rfl, Nat.le_of_ble_eq_true rfl⟩) ⟨pcW_blind, (pcW_pre hPc hkn hDc hst hS hFc)⟩ rfl rfl hl.1 rfl (lv_room (Nat.le_of_ble_eq_true rfl)) dX11_lasts_3 ⟨Nat.le_of_ble_eq_true rfl, Nat.le_of_ble_eq_true rfl⟩) hS (fun q _ h => hFc q h) hFc (fun r_1 u t H1 locs ht hvm hw_2 hB hz1 hk1 hS => ?_)
  obtain ⟨hP1, hD1⟩ := hB
  rw [ht] at hP1
  try dsimp only at hw_2
  obtain ⟨hP, hD⟩ := va_join (wr := [(h0, .inr (11, [.ref tp, .ref rd, .ref se, .ref ba, .ref of, .ref pl, .ref sr, .ref sc, .int wk])), (ba, .inl (E.2.1 4, 6, .inr (.inr (.inr (.inr fb))))), (bo_, .inr (0, [.ref sp, .ref pa, .int lt, .ref ru, .ref co, .ref tr])), (pa, .inl (E.2.1 0, 4, .inl fp))]) (w1 := []) hP hD [] [0, 1, 2, 3] rfl rfl (by decide) (by decide) hk1 hFc hP1 hD1
  generalize H1 = H at hP hS ⊢
  have hP : va_P E.1 vwCl [(h0, .inr (11, [.ref tp, .ref rd, .ref se, .ref ba, .ref of, .ref pl, .ref sr, .ref sc, .int wk])), (ba, .inl (E.2.1 4, 6, .inr (.inr (.inr (.inr fb))))), (bo_, .inr (0, [.ref sp, .ref pa, .int lt, .ref ru, .ref co, .ref tr])), (pa, .inl (E.2.1 0, 4, .inl fp))] H := hP
  have hD : va_D A [(h0, .inr (11, [.ref tp, .ref rd, .ref se, .ref ba, .ref of, .ref pl, .ref sr, .ref sc, .int wk])), (ba, .inl (E.2.1 4, 6, .inr (.inr (.inr (.inr fb))))), (bo_, .inr (0, [.ref sp, .ref pa, .int lt, .ref ru, .ref co, .ref tr])), (pa, .inl (E.2.1 0, 4, .inl fp))] := hD
  refine lv_if_eq (tgt := 28) hx hb dX11_lasts_6 (by decide) (fun c_3 => ?_) (fun c_3 => ?_)
  · have b_4 : inR b 0 5 = false := bz hw_2 c_3
    refine lv_bipush (v := (-2)) hx hb dX11_lasts_28 (by decide) ?_
    have hP9 := hP.sub (ws' := [(h0, .inr (11, [.ref tp, .ref rd, .ref se, .ref ba, .ref of, .ref pl, .ref sr, .ref sc, .int wk])), (ba, .inl (E.2.1 4, 6, .inr (.inr (.inr (.inr fb))))), (bo_, .inr (0, [.ref sp, .ref pa, .int lt, .ref ru, .ref co, .ref tr])), (pa, .inl (E.2.1 0, 4, .inl fp))]) [0, 1, 2, 3] rfl
    have hD9 := hD.sub (ws' := [(h0, .inr (11, [.ref tp, .ref rd, .ref se, .ref ba, .ref of, .ref pl, .ref sr, .ref sc, .int wk])), (ba, .inl (E.2.1 4, 6, .inr (.inr (.inr (.inr fb))))), (bo_, .inr (0, [.ref sp, .ref pa, .int lt, .ref ru, .ref co, .ref tr])), (pa, .inl (E.2.1 0, 4, .inl fp))]) [0, 1, 2, 3] (by decide) rfl
    exact W.iret (v := (-2)) hx hb hr (fun t ht hW => ⟨⟨(-2), fp, rfl, trivial, by rw [ht]; exact hP9, hD9⟩, hS.F ht⟩) hS.2.2 dX11_lasts_30
  · have b_5 : inR b 0 5 = true := bn hw_2 c_3
    refine lv_iload_n hx hb dX11_lasts_9 rfl (lv_at hl 2 rfl) ?_
    refine lv_iconst (v := 4) hx hb dX11_lasts_10 (by decide) ?_
    have hPc := hP.sub (ws' := []) [] rfl
    have hDc := hD.sub (ws' := []) [] (by decide) rfl
    have hFc := va_free (wc := []) hD hS hA [] rfl
    refine va_calli (va_runS (As := [.int part, .int 4]) (rest := []) ⟨hx, hb, hml, hown, hts⟩ (c_X11_below l E part 4 3 H.size (lt_le (by decide))) (va_cwS 2 hts gX11_lasts_X11_below rfl rfl rfl hdS_X11_below ⟨Nat.le_of_ble_eq_true rfl, Nat.le_of_ble_eq_true rfl⟩) ⟨pcW_blind, (pcW_pre hPc hkn hDc hst hS hFc)⟩ rfl rfl hl.1 rfl (lv_room (Nat.le_of_ble_eq_true rfl)) dX11_lasts_11 ⟨Nat.le_of_ble_eq_true rfl, Nat.le_of_ble_eq_true rfl⟩) hS (fun q _ h => hFc q h) hFc (fun r_6 u t H1 locs ht hvm hw_7 hB hz1 hk1 hS => ?_)
    obtain ⟨hP1, hD1⟩ := hB
    rw [ht] at hP1
    try dsimp only at hw_7
    obtain ⟨hP, hD⟩ := va_join (wr := [(h0, .inr (11, [.ref tp, .ref rd, .ref se, .ref ba, .ref of, .ref pl, .ref sr, .ref sc, .int wk])), (ba, .inl (E.2.1 4, 6, .inr (.inr (.inr (.inr fb))))), (bo_, .inr (0, [.ref sp, .ref pa, .int lt, .ref ru, .ref co, .ref tr])), (pa, .inl (E.2.1 0, 4, .inl fp))]) (w1 := []) hP hD [] [0, 1, 2, 3] rfl rfl (by decide) (by decide) hk1 hFc hP1 hD1
    generalize H1 = H at hP hS ⊢
    have hP : va_P E.1 vwCl [(h0, .inr (11, [.ref tp, .ref rd, .ref se, .ref ba, .ref of, .ref pl, .ref sr, .ref sc, .int wk])), (ba, .inl (E.2.1 4, 6, .inr (.inr (.inr (.inr fb))))), (bo_, .inr (0, [.ref sp, .ref pa, .int lt, .ref ru, .ref co, .ref tr])), (pa, .inl (E.2.1 0, 4, .inl fp))] H := hP
    have hD : va_D A [(h0, .inr (11, [.ref tp, .ref rd, .ref se, .ref ba, .ref of, .ref pl, .ref sr, .ref sc, .int wk])), (ba, .inl (E.2.1 4, 6, .inr (.inr (.inr (.inr fb))))), (bo_, .inr (0, [.ref sp, .ref pa, .int lt, .ref ru, .ref co, .ref tr])), (pa, .inl (E.2.1 0, 4, .inl fp))] := hD
    refine lv_if_eq (tgt := 28) hx hb dX11_lasts_14 (by decide) (fun c_8 => ?_) (fun c_8 => ?_)
    · have b_9 : inR part 0 3 = false := bz hw_7 c_8
      refine lv_bipush (v := (-2)) hx hb dX11_lasts_28 (by decide) ?_
      have hP9 := hP.sub (ws' := [(h0, .inr (11, [.ref tp, .ref rd, .ref se, .ref ba, .ref of, .ref pl, .ref sr, .ref sc, .int wk])), (ba, .inl (E.2.1 4, 6, .inr (.inr (.inr (.inr fb))))), (bo_, .inr (0, [.ref sp, .ref pa, .int lt, .ref ru, .ref co, .ref tr])), (pa, .inl (E.2.1 0, 4, .inl fp))]) [0, 1, 2, 3] rfl
      have hD9 := hD.sub (ws' := [(h0, .inr (11, [.ref tp, .ref rd, .ref se, .ref ba, .ref of, .ref pl, .ref sr, .ref sc, .int wk])), (ba, .inl (E.2.1 4, 6, .inr (.inr (.inr (.inr fb))))), (bo_, .inr (0, [.ref sp, .ref pa, .int lt, .ref ru, .ref co, .ref tr])), (pa, .inl (E.2.1 0, 4, .inl fp))]) [0, 1, 2, 3] (by decide) rfl
      exact W.iret (v := (-2)) hx hb hr (fun t ht hW => ⟨⟨(-2), fp, rfl, trivial, by rw [ht]; exact hP9, hD9⟩, hS.F ht⟩) hS.2.2 dX11_lasts_30
    · have b_10 : inR part 0 3 = true := bn hw_7 c_8
      refine lv_iload_n hx hb dX11_lasts_17 rfl (lv_at hl 3 rfl) ?_
      refine lv_iconst (v := 0) hx hb dX11_lasts_18 (by decide) ?_
      refine lv_sipush (v := 10000) hx hb dX11_lasts_19 (by decide) ?_
      have hPc := hP.sub (ws' := []) [] rfl
      have hDc := hD.sub (ws' := []) [] (by decide) rfl
      have hFc := va_free (wc := []) hD hS hA [] rfl
      refine va_calli (va_runS (As := [.int watches, .int 0, .int 10000]) (rest := []) ⟨hx, hb, hml, hown, hts⟩ (c_X11_within l E watches 0 10000 H.size ) (va_cwS 3 hts gX11_lasts_X11_within rfl rfl rfl hdS_X11_within ⟨Nat.le_of_ble_eq_true rfl, Nat.le_of_ble_eq_true rfl⟩) ⟨pcW_blind, (pcW_pre hPc hkn hDc hst hS hFc)⟩ rfl rfl hl.1 rfl (lv_room (Nat.le_of_ble_eq_true rfl)) dX11_lasts_22 ⟨Nat.le_of_ble_eq_true rfl, Nat.le_of_ble_eq_true rfl⟩) hS (fun q _ h => hFc q h) hFc (fun r_11 u t H1 locs ht hvm hw_12 hB hz1 hk1 hS => ?_)
      obtain ⟨hP1, hD1⟩ := hB
      rw [ht] at hP1
      try dsimp only at hw_12
      obtain ⟨hP, hD⟩ := va_join (wr := [(h0, .inr (11, [.ref tp, .ref rd, .ref se, .ref ba, .ref of, .ref pl, .ref sr, .ref sc, .int wk])), (ba, .inl (E.2.1 4, 6, .inr (.inr (.inr (.inr fb))))), (bo_, .inr (0, [.ref sp, .ref pa, .int lt, .ref ru, .ref co, .ref tr])), (pa, .inl (E.2.1 0, 4, .inl fp))]) (w1 := []) hP hD [] [0, 1, 2, 3] rfl rfl (by decide) (by decide) hk1 hFc hP1 hD1
      generalize H1 = H at hP hS ⊢
      have hP : va_P E.1 vwCl [(h0, .inr (11, [.ref tp, .ref rd, .ref se, .ref ba, .ref of, .ref pl, .ref sr, .ref sc, .int wk])), (ba, .inl (E.2.1 4, 6, .inr (.inr (.inr (.inr fb))))), (bo_, .inr (0, [.ref sp, .ref pa, .int lt, .ref ru, .ref co, .ref tr])), (pa, .inl (E.2.1 0, 4, .inl fp))] H := hP
      have hD : va_D A [(h0, .inr (11, [.ref tp, .ref rd, .ref se, .ref ba, .ref of, .ref pl, .ref sr, .ref sc, .int wk])), (ba, .inl (E.2.1 4, 6, .inr (.inr (.inr (.inr fb))))), (bo_, .inr (0, [.ref sp, .ref pa, .int lt, .ref ru, .ref co, .ref tr])), (pa, .inl (E.2.1 0, 4, .inl fp))] := hD
      refine lv_if_ne (tgt := 31) hx hb dX11_lasts_25 (by decide) (fun c_13 => ?_) (fun c_13 => ?_)
      · have b_14 : inR watches 0 10000 = true := bn hw_12 c_13
        refine lv_aload_n hx hb dX11_lasts_31 rfl (lv_at hl 0 rfl) ?_
        refine va_get (D := E.1) (ci := 11) (v := .ref ba) (C := RX11) (T := TX11) (N := 9) hx hb hts inX11 hown hK hP 0 rfl rfl 3 (by decide) fl34 (fun _ h9 => h9) rfl dX11_lasts_32 ?_
        refine lv_iload_n hx hb dX11_lasts_35 rfl (lv_at hl 1 rfl) ?_
        have hi_15 : vp_in b 6 := inR_in (by decide) b_5
        refine va_aldq hx hb hK hP 1 4 rfl rfl hi_15 dX11_lasts_36 ?_
        rw [show va_rf (fb b.toNatClampNeg) = .ref bo_ from by rw [hfb b_5]; rfl]
        refine va_get (D := E.1) (ci := 0) (v := .ref pa) (C := RX0) (T := TX0) (N := 6) hx hb hts inX0 hown hK hP 2 rfl rfl 1 (by decide) fl105 (fun _ h9 => h9) rfl dX11_lasts_37 ?_
        refine lv_iload_n hx hb dX11_lasts_40 rfl (lv_at hl 2 rfl) ?_
        have hi_16 : vp_in part 4 := inR_in (by decide) b_10
        refine va_iald hx hb hK hP 3 0 rfl rfl hi_16 dX11_lasts_41 ?_
        refine lv_topi (fun x_17 ex_17 => ?_)
        refine lv_istore (lv' := [(4, .int x_17), (0, .ref h0), (1, .int b), (2, .int part), (3, .int watches)]) hx hb dX11_lasts_42 hl (by decide) rfl (fun ls hl => ?_)
        refine lv_aload_n hx hb dX11_lasts_44 rfl (lv_at hl 1 rfl) ?_
        refine va_get (D := E.1) (ci := 11) (v := .ref ba) (C := RX11) (T := TX11) (N := 9) hx hb hts inX11 hown hK hP 0 rfl rfl 3 (by decide) fl34 (fun _ h9 => h9) rfl dX11_lasts_45 ?_
        refine lv_iload_n hx hb dX11_lasts_48 rfl (lv_at hl 2 rfl) ?_
        refine va_aldq hx hb hK hP 1 4 rfl rfl hi_15 dX11_lasts_49 ?_
        rw [show va_rf (fb b.toNatClampNeg) = .ref bo_ from by rw [hfb b_5]; rfl]
        refine va_get (D := E.1) (ci := 0) (v := .ref pa) (C := RX0) (T := TX0) (N := 6) hx hb hts inX0 hown hK hP 2 rfl rfl 1 (by decide) fl105 (fun _ h9 => h9) rfl dX11_lasts_50 ?_
        refine lv_iload_n hx hb dX11_lasts_53 rfl (lv_at hl 3 rfl) ?_
        refine lv_iload_n hx hb dX11_lasts_54 rfl (lv_at hl 4 rfl) ?_
        refine va_iast hx hb hK hP hD hS 3 0 rfl rfl hi_16 dX11_lasts_55 (fun H locs hP hD hS => ?_)
        have hP : va_P E.1 vwCl [(h0, .inr (11, [.ref tp, .ref rd, .ref se, .ref ba, .ref of, .ref pl, .ref sr, .ref sc, .int wk])), (ba, .inl (E.2.1 4, 6, .inr (.inr (.inr (.inr fb))))), (bo_, .inr (0, [.ref sp, .ref pa, .int lt, .ref ru, .ref co, .ref tr])), (pa, .inl (E.2.1 0, 4, .inl (upd fp part.toNatClampNeg watches)))] H := hP
        have hD : va_D A [(h0, .inr (11, [.ref tp, .ref rd, .ref se, .ref ba, .ref of, .ref pl, .ref sr, .ref sc, .int wk])), (ba, .inl (E.2.1 4, 6, .inr (.inr (.inr (.inr fb))))), (bo_, .inr (0, [.ref sp, .ref pa, .int lt, .ref ru, .ref co, .ref tr])), (pa, .inl (E.2.1 0, 4, .inl (upd fp part.toNatClampNeg watches)))] := hD
        obtain ⟨f_18, ef_18⟩ : ∃ g : Nat → Int32, g = upd fp part.toNatClampNeg watches := ⟨_, rfl⟩
        rw [← ef_18] at hP hD
        refine lv_iload hx hb dX11_lasts_56 (lv_at hl 0 rfl) ?_
        refine lv_iconst (v := 0) hx hb dX11_lasts_58 (by decide) ?_
        refine va_mmax hx hb (by rw [hml]; exact hl.1.symm) hown (hts (.methodLink RX11 108 Lib.Math.max.name) (by first | exact List.mem_of_getElem? (i := 3) rfl | decide +kernel)) (hts (.static Lib.Math.max.name) (by first | exact List.mem_of_getElem? (i := 4) rfl | decide +kernel)) (hts (.initialized "java/lang/Math") (by first | exact List.mem_of_getElem? (i := 5) rfl | decide +kernel)) (hts (.code Lib.Math.max.name Lib.Math.max.code 2 (some .int)) (by first | exact List.mem_of_getElem? (i := 6) rfl | decide +kernel)) (Nat.le_of_ble_eq_true rfl) (Nat.le_of_ble_eq_true rfl) (Nat.le_of_ble_eq_true rfl) (Nat.le_of_ble_eq_true rfl) dX11_lasts_59 ?_
        refine lv_topi (fun x_19 ex_19 => ?_)
        have hP9 := hP.sub (ws' := [(h0, .inr (11, [.ref tp, .ref rd, .ref se, .ref ba, .ref of, .ref pl, .ref sr, .ref sc, .int wk])), (ba, .inl (E.2.1 4, 6, .inr (.inr (.inr (.inr fb))))), (bo_, .inr (0, [.ref sp, .ref pa, .int lt, .ref ru, .ref co, .ref tr])), (pa, .inl (E.2.1 0, 4, .inl f_18))]) [0, 1, 2, 3] rfl
        have hD9 := hD.sub (ws' := [(h0, .inr (11, [.ref tp, .ref rd, .ref se, .ref ba, .ref of, .ref pl, .ref sr, .ref sc, .int wk])), (ba, .inl (E.2.1 4, 6, .inr (.inr (.inr (.inr fb))))), (bo_, .inr (0, [.ref sp, .ref pa, .int lt, .ref ru, .ref co, .ref tr])), (pa, .inl (E.2.1 0, 4, .inl f_18))]) [0, 1, 2, 3] (by decide) rfl
        exact W.iret (v := x_19) hx hb hr (fun t ht hW => ⟨⟨x_19, f_18, rfl, trivial, by rw [ht]; exact hP9, hD9⟩, hS.F ht⟩) hS.2.2 dX11_lasts_62
      · have b_20 : inR watches 0 10000 = false := bz hw_12 c_13
        refine lv_bipush (v := (-2)) hx hb dX11_lasts_28 (by decide) ?_
        have hP9 := hP.sub (ws' := [(h0, .inr (11, [.ref tp, .ref rd, .ref se, .ref ba, .ref of, .ref pl, .ref sr, .ref sc, .int wk])), (ba, .inl (E.2.1 4, 6, .inr (.inr (.inr (.inr fb))))), (bo_, .inr (0, [.ref sp, .ref pa, .int lt, .ref ru, .ref co, .ref tr])), (pa, .inl (E.2.1 0, 4, .inl fp))]) [0, 1, 2, 3] rfl
        have hD9 := hD.sub (ws' := [(h0, .inr (11, [.ref tp, .ref rd, .ref se, .ref ba, .ref of, .ref pl, .ref sr, .ref sc, .int wk])), (ba, .inl (E.2.1 4, 6, .inr (.inr (.inr (.inr fb))))), (bo_, .inr (0, [.ref sp, .ref pa, .int lt, .ref ru, .ref co, .ref tr])), (pa, .inl (E.2.1 0, 4, .inl fp))]) [0, 1, 2, 3] (by decide) rfl
        exact W.iret (v := (-2)) hx hb hr (fun t ht hW => ⟨⟨(-2), fp, rfl, trivial, by rw [ht]; exact hP9, hD9⟩, hS.F ht⟩) hS.2.2 dX11_lasts_30
set_option maxHeartbeats 4000000 in
set_option maxRecDepth 100000 in
theorem c_X11_fault (l : Launch) (E : vE) (h0 : Nat) (tp : Nat) (rd : Nat) (se : Nat) (ba : Nat) (of : Nat) (pl : Nat) (sr : Nat) (sc : Nat) (wk : Int32) (tk : Nat) (fk : Int32) (fq : Int32) (what : Int32) (sz : Nat) : Met l yX11_fault wsX11_fault ({ frames := 0, cells := 0, slots := 0, locals := 0 }) (pcW E [.ref h0, .int what] sz [(h0, .inr (11, [.ref tp, .ref rd, .ref se, .ref ba, .ref of, .ref pl, .ref sr, .ref sc, .int wk])), (rd, .inr (6, [.ref tk, .int fk, .int fq]))]) (va_Qi (fun (r : Int32) (_ : Unit) => True) (fun (_ : Unit) (t : State) => wB E (va_A [(h0, .inr (11, [.ref tp, .ref rd, .ref se, .ref ba, .ref of, .ref pl, .ref sr, .ref sc, .int wk])), (rd, .inr (6, [.ref tk, .int fk, .int fq]))] sz) [(h0, .inr (11, [.ref tp, .ref rd, .ref se, .ref ba, .ref of, .ref pl, .ref sr, .ref sc, .int wk])), (rd, .inr (6, [.ref tk, .int fk, .int fq]))] t) (va_A [(h0, .inr (11, [.ref tp, .ref rd, .ref se, .ref ba, .ref of, .ref pl, .ref sr, .ref sc, .int wk])), (rd, .inr (6, [.ref tk, .int fk, .int fq]))] sz)) 0 0 (va_A [(h0, .inr (11, [.ref tp, .ref rd, .ref se, .ref ba, .ref of, .ref pl, .ref sr, .ref sc, .int wk])), (rd, .inr (6, [.ref tk, .int fk, .int fq]))] sz) := by
  refine Met.ofW (cc := cX11_fault) (maxL := 2) (ret := (some .int)) (by decide) rfl ?_
  intro p e s m args below meth c s₁ B hml hv
  obtain ⟨rfl, hsz, hP, hkn, hD0, hst⟩ := hv
  have hx := B.exec
  have hb := B.bytes
  have hr := B.returns
  have hts := atoms_spec (ws := wsX11_fault) B.pre
  have hown : s.vm.findClass RX11 = some m.cls := findClass_of_methodNamed B.named
  have hlocks := B.notSynchronized
  subst hsz
  have hD := hD0.self (sz := s.heap.size)
  have hK := hkn.1
  have hAO := hkn.2.2.1
  generalize hAe : va_A [(h0, .inr (11, [.ref tp, .ref rd, .ref se, .ref ba, .ref of, .ref pl, .ref sr, .ref sc, .int wk])), (rd, .inr (6, [.ref tk, .int fk, .int fq]))] s.heap.size = A at hD hst ⊢
  have hA : ∀ q : Nat, s.heap.size ≤ q → A q := fun q h => by rw [← hAe]; exact Or.inr h
  have hS : va_S A s.heap s.heap [] := va_S.rf
  have hP : va_P E.1 vwCl [(h0, .inr (11, [.ref tp, .ref rd, .ref se, .ref ba, .ref of, .ref pl, .ref sr, .ref sc, .int wk])), (rd, .inr (6, [.ref tk, .int fk, .int fq]))] s.heap := hP
  have hl := lv_entry ([.ref h0, .int what]) (n := 2) (Nat.le_of_ble_eq_true rfl)
  rw [lg_entry_eq]
  generalize (lg_sl ([.ref h0, .int what]) ++ List.replicate (2 - (lg_sl ([.ref h0, .int what])).length) Slot.unset).toArray = ls at hl ⊢
  have hl : lv_has ls 2 [(0, .ref h0), (1, .int what)] := hl
  have fl21 := hts (.fieldLink RX11 21 "BoatsHome" "reader" "LBoatsHome$Reader;") (by first | exact List.mem_of_getElem? (i := 1) rfl | decide +kernel)
  have fl134 := hts (.fieldLink RX11 134 "BoatsHome$Reader" "faultKind" "I") (by first | exact List.mem_of_getElem? (i := 2) rfl | decide +kernel)
  have fl137 := hts (.fieldLink RX11 137 "BoatsHome$Reader" "faultPlace" "I") (by first | exact List.mem_of_getElem? (i := 3) rfl | decide +kernel)
  have inX11 : ∀ w ∈ u_ws RX11 TX11 9, w ∈ wsX11_fault := by first | exact fun w h9 => (List.mem_cons_of_mem _ (List.mem_append_left _ (List.mem_append_right _ h9))) | decide +kernel
  have inX6 : ∀ w ∈ u_ws RX6 TX6 3, w ∈ wsX11_fault := by first | exact fun w h9 => (List.mem_cons_of_mem _ (List.mem_append_right _ h9)) | decide +kernel
  refine lv_iload_n hx hb dX11_fault_0 rfl (lv_at hl 1 rfl) ?_
  by_cases c_1 : what = 0
  · refine lv_lookup (off := 27) (tgt := 28) hx hb dX11_fault_1 (by decide) (by rw [c_1]; decide) (by decide) ?_
    refine lv_aload_n hx hb dX11_fault_28 rfl (lv_at hl 0 rfl) ?_
    refine va_get (D := E.1) (ci := 11) (v := .ref rd) (C := RX11) (T := TX11) (N := 9) hx hb hts inX11 hown hK hP 0 rfl rfl 1 (by decide) fl21 (fun _ h9 => h9) rfl dX11_fault_29 ?_
    refine va_get (D := E.1) (ci := 6) (v := .int fk) (C := RX6) (T := TX6) (N := 3) hx hb hts inX6 hown hK hP 1 rfl rfl 1 (by decide) fl134 (fun _ h9 => h9) rfl dX11_fault_32 ?_
    have hP9 := hP.sub (ws' := [(h0, .inr (11, [.ref tp, .ref rd, .ref se, .ref ba, .ref of, .ref pl, .ref sr, .ref sc, .int wk])), (rd, .inr (6, [.ref tk, .int fk, .int fq]))]) [0, 1] rfl
    have hD9 := hD.sub (ws' := [(h0, .inr (11, [.ref tp, .ref rd, .ref se, .ref ba, .ref of, .ref pl, .ref sr, .ref sc, .int wk])), (rd, .inr (6, [.ref tk, .int fk, .int fq]))]) [0, 1] (by decide) rfl
    exact W.iret (v := fk) hx hb hr (fun t ht hW => ⟨⟨fk, (), rfl, trivial, by rw [ht]; exact hP9, hD9⟩, hS.F ht⟩) hS.2.2 dX11_fault_35
  by_cases c_2 : what = 1
  · refine lv_lookup (off := 35) (tgt := 36) hx hb dX11_fault_1 (by decide) (by rw [c_2]; decide) (by decide) ?_
    refine lv_aload_n hx hb dX11_fault_36 rfl (lv_at hl 0 rfl) ?_
    refine va_get (D := E.1) (ci := 11) (v := .ref rd) (C := RX11) (T := TX11) (N := 9) hx hb hts inX11 hown hK hP 0 rfl rfl 1 (by decide) fl21 (fun _ h9 => h9) rfl dX11_fault_37 ?_
    refine va_get (D := E.1) (ci := 6) (v := .int fq) (C := RX6) (T := TX6) (N := 3) hx hb hts inX6 hown hK hP 1 rfl rfl 2 (by decide) fl137 (fun _ h9 => h9) rfl dX11_fault_40 ?_
    have hP9 := hP.sub (ws' := [(h0, .inr (11, [.ref tp, .ref rd, .ref se, .ref ba, .ref of, .ref pl, .ref sr, .ref sc, .int wk])), (rd, .inr (6, [.ref tk, .int fk, .int fq]))]) [0, 1] rfl
    have hD9 := hD.sub (ws' := [(h0, .inr (11, [.ref tp, .ref rd, .ref se, .ref ba, .ref of, .ref pl, .ref sr, .ref sc, .int wk])), (rd, .inr (6, [.ref tk, .int fk, .int fq]))]) [0, 1] (by decide) rfl
    exact W.iret (v := fq) hx hb hr (fun t ht hW => ⟨⟨fq, (), rfl, trivial, by rw [ht]; exact hP9, hD9⟩, hS.F ht⟩) hS.2.2 dX11_fault_43
  refine lv_lookup (off := 43) (tgt := 44) hx hb dX11_fault_1 (by decide) (by have g0 : ¬ (0 : Int) = what.toInt := fun h => c_1 (Int32.toInt_inj.mp (h.symm.trans (by decide))); have g1 : ¬ (1 : Int) = what.toInt := fun h => c_2 (Int32.toInt_inj.mp (h.symm.trans (by decide))); simp [Op.lookupswitch.offset, g0, g1]) (by decide) ?_
  refine lv_iconst (v := (-1)) hx hb dX11_fault_44 (by decide) ?_
  have hP9 := hP.sub (ws' := [(h0, .inr (11, [.ref tp, .ref rd, .ref se, .ref ba, .ref of, .ref pl, .ref sr, .ref sc, .int wk])), (rd, .inr (6, [.ref tk, .int fk, .int fq]))]) [0, 1] rfl
  have hD9 := hD.sub (ws' := [(h0, .inr (11, [.ref tp, .ref rd, .ref se, .ref ba, .ref of, .ref pl, .ref sr, .ref sc, .int wk])), (rd, .inr (6, [.ref tk, .int fk, .int fq]))]) [0, 1] (by decide) rfl
  exact W.iret (v := (-1)) hx hb hr (fun t ht hW => ⟨⟨(-1), (), rfl, trivial, by rw [ht]; exact hP9, hD9⟩, hS.F ht⟩) hS.2.2 dX11_fault_45
set_option maxHeartbeats 4000000 in
set_option maxRecDepth 100000 in
theorem c_X11_covers (l : Launch) (E : vE) (h0 : Nat) (tp : Nat) (rd : Nat) (se : Nat) (ba : Nat) (of : Nat) (pl : Nat) (sr : Nat) (sc : Nat) (wk : Int32) (bo_ : Nat) (sp : Nat) (pa : Nat) (ru : Nat) (co : Nat) (tr : Nat) (lt : Int32) (fb : Nat → Option Nat) (bx : Nat) (bc : Int32) (lc : Int32) (mf : Int32) (li : Int32) (fx : Nat → Int32) (b : Int32) (place : Int32) (day : Int32) (crew : Int32) (force : Int32) (sz : Nat) (hfb : inR b 0 5 = true → fb b.toNatClampNeg = some bo_) : Met l yX11_covers wsX11_covers ({ frames := 4, cells := 0, slots := 0, locals := 94 }) (pcW E [.ref h0, .int b, .int place, .int day, .int crew, .int force] sz [(h0, .inr (11, [.ref tp, .ref rd, .ref se, .ref ba, .ref of, .ref pl, .ref sr, .ref sc, .int wk])), (ba, .inl (E.2.1 4, 6, .inr (.inr (.inr (.inr fb))))), (bo_, .inr (0, [.ref sp, .ref pa, .int lt, .ref ru, .ref co, .ref tr])), (co, .inr (1, [.ref bx, .int bc, .int lc, .int mf, .int li])), (bx, .inl (E.2.1 0, 72, .inl fx))]) (va_Qi (fun (r : Int32) (_ : Unit) => True) (fun (_ : Unit) (t : State) => wB E (va_A [(h0, .inr (11, [.ref tp, .ref rd, .ref se, .ref ba, .ref of, .ref pl, .ref sr, .ref sc, .int wk])), (ba, .inl (E.2.1 4, 6, .inr (.inr (.inr (.inr fb))))), (bo_, .inr (0, [.ref sp, .ref pa, .int lt, .ref ru, .ref co, .ref tr])), (co, .inr (1, [.ref bx, .int bc, .int lc, .int mf, .int li])), (bx, .inl (E.2.1 0, 72, .inl fx))] sz) [(h0, .inr (11, [.ref tp, .ref rd, .ref se, .ref ba, .ref of, .ref pl, .ref sr, .ref sc, .int wk])), (ba, .inl (E.2.1 4, 6, .inr (.inr (.inr (.inr fb))))), (bo_, .inr (0, [.ref sp, .ref pa, .int lt, .ref ru, .ref co, .ref tr])), (co, .inr (1, [.ref bx, .int bc, .int lc, .int mf, .int li])), (bx, .inl (E.2.1 0, 72, .inl fx))] t) (va_A [(h0, .inr (11, [.ref tp, .ref rd, .ref se, .ref ba, .ref of, .ref pl, .ref sr, .ref sc, .int wk])), (ba, .inl (E.2.1 4, 6, .inr (.inr (.inr (.inr fb))))), (bo_, .inr (0, [.ref sp, .ref pa, .int lt, .ref ru, .ref co, .ref tr])), (co, .inr (1, [.ref bx, .int bc, .int lc, .int mf, .int li])), (bx, .inl (E.2.1 0, 72, .inl fx))] sz)) 0 0 (va_A [(h0, .inr (11, [.ref tp, .ref rd, .ref se, .ref ba, .ref of, .ref pl, .ref sr, .ref sc, .int wk])), (ba, .inl (E.2.1 4, 6, .inr (.inr (.inr (.inr fb))))), (bo_, .inr (0, [.ref sp, .ref pa, .int lt, .ref ru, .ref co, .ref tr])), (co, .inr (1, [.ref bx, .int bc, .int lc, .int mf, .int li])), (bx, .inl (E.2.1 0, 72, .inl fx))] sz) := by
  refine Met.ofW (cc := cX11_covers) (maxL := 6) (ret := (some .int)) (by decide) rfl ?_
  intro p e s m args below meth c s₁ B hml hv
  obtain ⟨rfl, hsz, hP, hkn, hD0, hst⟩ := hv
  have hx := B.exec
  have hb := B.bytes
  have hr := B.returns
  have hts := atoms_spec (ws := wsX11_covers) B.pre
  have hown : s.vm.findClass RX11 = some m.cls := findClass_of_methodNamed B.named
  have hlocks := B.notSynchronized
  subst hsz
  have hD := hD0.self (sz := s.heap.size)
  have hK := hkn.1
  have hAO := hkn.2.2.1
  generalize hAe : va_A [(h0, .inr (11, [.ref tp, .ref rd, .ref se, .ref ba, .ref of, .ref pl, .ref sr, .ref sc, .int wk])), (ba, .inl (E.2.1 4, 6, .inr (.inr (.inr (.inr fb))))), (bo_, .inr (0, [.ref sp, .ref pa, .int lt, .ref ru, .ref co, .ref tr])), (co, .inr (1, [.ref bx, .int bc, .int lc, .int mf, .int li])), (bx, .inl (E.2.1 0, 72, .inl fx))] s.heap.size = A at hD hst ⊢
  have hA : ∀ q : Nat, s.heap.size ≤ q → A q := fun q h => by rw [← hAe]; exact Or.inr h
  have hS : va_S A s.heap s.heap [] := va_S.rf
  have hP : va_P E.1 vwCl [(h0, .inr (11, [.ref tp, .ref rd, .ref se, .ref ba, .ref of, .ref pl, .ref sr, .ref sc, .int wk])), (ba, .inl (E.2.1 4, 6, .inr (.inr (.inr (.inr fb))))), (bo_, .inr (0, [.ref sp, .ref pa, .int lt, .ref ru, .ref co, .ref tr])), (co, .inr (1, [.ref bx, .int bc, .int lc, .int mf, .int li])), (bx, .inl (E.2.1 0, 72, .inl fx))] s.heap := hP
  have hl := lv_entry ([.ref h0, .int b, .int place, .int day, .int crew, .int force]) (n := 6) (Nat.le_of_ble_eq_true rfl)
  rw [lg_entry_eq]
  generalize (lg_sl ([.ref h0, .int b, .int place, .int day, .int crew, .int force]) ++ List.replicate (6 - (lg_sl ([.ref h0, .int b, .int place, .int day, .int crew, .int force])).length) Slot.unset).toArray = ls at hl ⊢
  have hl : lv_has ls 6 [(0, .ref h0), (1, .int b), (2, .int place), (3, .int day), (4, .int crew), (5, .int force)] := hl
  have fl34 := hts (.fieldLink RX11 34 "BoatsHome" "boats" "[LBoatsHome$Boat;") (by first | exact List.mem_of_getElem? (i := 1) rfl | decide +kernel)
  have fl128 := hts (.fieldLink RX11 128 "BoatsHome$Boat" "cover" "LBoatsHome$Cover;") (by first | exact List.mem_of_getElem? (i := 2) rfl | decide +kernel)
  have inX0 : ∀ w ∈ u_ws RX0 TX0 6, w ∈ wsX11_covers := by first | exact fun w h9 => (List.mem_cons_of_mem _ (List.mem_append_left _ (List.mem_append_right _ h9))) | decide +kernel
  have inX11 : ∀ w ∈ u_ws RX11 TX11 9, w ∈ wsX11_covers := by first | exact fun w h9 => (List.mem_cons_of_mem _ (List.mem_append_left _ (List.mem_append_left _ (List.mem_append_right _ h9)))) | decide +kernel
  refine lv_iload_n hx hb dX11_covers_0 rfl (lv_at hl 1 rfl) ?_
  refine lv_bipush (v := 6) hx hb dX11_covers_1 (by decide) ?_
  have hPc := hP.sub (ws' := []) [] rfl
  have hDc := hD.sub (ws' := []) [] (by decide) rfl
  have hFc := va_free (wc := []) hD hS hA [] rfl
  refine va_calli (va_runS (As := [.int b, .int 6]) (rest := []) ⟨hx, hb, hml, hown, hts⟩ (c_X11_below l E b 6 5 s.heap.size (lt_le (by decide))) (va_cwS 2 hts gX11_covers_X11_below rfl rfl rfl hdS_X11_below ⟨Nat.le_of_ble_eq_true rfl, Nat.le_of_ble_eq_true rfl⟩) ⟨pcW_blind, (pcW_pre hPc hkn hDc hst hS hFc)⟩ rfl rfl hl.1 rfl (lv_room (Nat.le_of_ble_eq_true rfl)) dX11_covers_3 ⟨Nat.le_of_ble_eq_true rfl, Nat.le_of_ble_eq_true rfl⟩) hS (fun q _ h => hFc q h) hFc (fun r_1 u t H1 locs ht hvm hw_2 hB hz1 hk1 hS => ?_)
  obtain ⟨hP1, hD1⟩ := hB
  rw [ht] at hP1
  try dsimp only at hw_2
  obtain ⟨hP, hD⟩ := va_join (wr := [(h0, .inr (11, [.ref tp, .ref rd, .ref se, .ref ba, .ref of, .ref pl, .ref sr, .ref sc, .int wk])), (ba, .inl (E.2.1 4, 6, .inr (.inr (.inr (.inr fb))))), (bo_, .inr (0, [.ref sp, .ref pa, .int lt, .ref ru, .ref co, .ref tr])), (co, .inr (1, [.ref bx, .int bc, .int lc, .int mf, .int li])), (bx, .inl (E.2.1 0, 72, .inl fx))]) (w1 := []) hP hD [] [0, 1, 2, 3, 4] rfl rfl (by decide) (by decide) hk1 hFc hP1 hD1
  generalize H1 = H at hP hS ⊢
  have hP : va_P E.1 vwCl [(h0, .inr (11, [.ref tp, .ref rd, .ref se, .ref ba, .ref of, .ref pl, .ref sr, .ref sc, .int wk])), (ba, .inl (E.2.1 4, 6, .inr (.inr (.inr (.inr fb))))), (bo_, .inr (0, [.ref sp, .ref pa, .int lt, .ref ru, .ref co, .ref tr])), (co, .inr (1, [.ref bx, .int bc, .int lc, .int mf, .int li])), (bx, .inl (E.2.1 0, 72, .inl fx))] H := hP
  have hD : va_D A [(h0, .inr (11, [.ref tp, .ref rd, .ref se, .ref ba, .ref of, .ref pl, .ref sr, .ref sc, .int wk])), (ba, .inl (E.2.1 4, 6, .inr (.inr (.inr (.inr fb))))), (bo_, .inr (0, [.ref sp, .ref pa, .int lt, .ref ru, .ref co, .ref tr])), (co, .inr (1, [.ref bx, .int bc, .int lc, .int mf, .int li])), (bx, .inl (E.2.1 0, 72, .inl fx))] := hD
  refine lv_if_eq (tgt := 49) hx hb dX11_covers_6 (by decide) (fun c_3 => ?_) (fun c_3 => ?_)
  · have b_4 : inR b 0 5 = false := bz hw_2 c_3
    refine lv_bipush (v := (-2)) hx hb dX11_covers_49 (by decide) ?_
    have hP9 := hP.sub (ws' := [(h0, .inr (11, [.ref tp, .ref rd, .ref se, .ref ba, .ref of, .ref pl, .ref sr, .ref sc, .int wk])), (ba, .inl (E.2.1 4, 6, .inr (.inr (.inr (.inr fb))))), (bo_, .inr (0, [.ref sp, .ref pa, .int lt, .ref ru, .ref co, .ref tr])), (co, .inr (1, [.ref bx, .int bc, .int lc, .int mf, .int li])), (bx, .inl (E.2.1 0, 72, .inl fx))]) [0, 1, 2, 3, 4] rfl
    have hD9 := hD.sub (ws' := [(h0, .inr (11, [.ref tp, .ref rd, .ref se, .ref ba, .ref of, .ref pl, .ref sr, .ref sc, .int wk])), (ba, .inl (E.2.1 4, 6, .inr (.inr (.inr (.inr fb))))), (bo_, .inr (0, [.ref sp, .ref pa, .int lt, .ref ru, .ref co, .ref tr])), (co, .inr (1, [.ref bx, .int bc, .int lc, .int mf, .int li])), (bx, .inl (E.2.1 0, 72, .inl fx))]) [0, 1, 2, 3, 4] (by decide) rfl
    exact W.iret (v := (-2)) hx hb hr (fun t ht hW => ⟨⟨(-2), (), rfl, trivial, by rw [ht]; exact hP9, hD9⟩, hS.F ht⟩) hS.2.2 dX11_covers_51
  · have b_5 : inR b 0 5 = true := bn hw_2 c_3
    refine lv_iload_n hx hb dX11_covers_9 rfl (lv_at hl 2 rfl) ?_
    have hPc := hP.sub (ws' := []) [] rfl
    have hDc := hD.sub (ws' := []) [] (by decide) rfl
    have hFc := va_free (wc := []) hD hS hA [] rfl
    refine va_calli (va_runS (As := [.int place]) (rest := []) ⟨hx, hb, hml, hown, hts⟩ (c_X11_isPlace l E place H.size ) (va_cwS 1 hts gX11_covers_X11_isPlace rfl rfl rfl hdS_X11_isPlace ⟨Nat.le_of_ble_eq_true rfl, Nat.le_of_ble_eq_true rfl⟩) ⟨pcW_blind, (pcW_pre hPc hkn hDc hst hS hFc)⟩ rfl rfl hl.1 rfl (lv_room (Nat.le_of_ble_eq_true rfl)) dX11_covers_10 ⟨Nat.le_of_ble_eq_true rfl, Nat.le_of_ble_eq_true rfl⟩) hS (fun q _ h => hFc q h) hFc (fun r_6 u t H1 locs ht hvm hw_7 hB hz1 hk1 hS => ?_)
    obtain ⟨hP1, hD1⟩ := hB
    rw [ht] at hP1
    try dsimp only at hw_7
    obtain ⟨hP, hD⟩ := va_join (wr := [(h0, .inr (11, [.ref tp, .ref rd, .ref se, .ref ba, .ref of, .ref pl, .ref sr, .ref sc, .int wk])), (ba, .inl (E.2.1 4, 6, .inr (.inr (.inr (.inr fb))))), (bo_, .inr (0, [.ref sp, .ref pa, .int lt, .ref ru, .ref co, .ref tr])), (co, .inr (1, [.ref bx, .int bc, .int lc, .int mf, .int li])), (bx, .inl (E.2.1 0, 72, .inl fx))]) (w1 := []) hP hD [] [0, 1, 2, 3, 4] rfl rfl (by decide) (by decide) hk1 hFc hP1 hD1
    generalize H1 = H at hP hS ⊢
    have hP : va_P E.1 vwCl [(h0, .inr (11, [.ref tp, .ref rd, .ref se, .ref ba, .ref of, .ref pl, .ref sr, .ref sc, .int wk])), (ba, .inl (E.2.1 4, 6, .inr (.inr (.inr (.inr fb))))), (bo_, .inr (0, [.ref sp, .ref pa, .int lt, .ref ru, .ref co, .ref tr])), (co, .inr (1, [.ref bx, .int bc, .int lc, .int mf, .int li])), (bx, .inl (E.2.1 0, 72, .inl fx))] H := hP
    have hD : va_D A [(h0, .inr (11, [.ref tp, .ref rd, .ref se, .ref ba, .ref of, .ref pl, .ref sr, .ref sc, .int wk])), (ba, .inl (E.2.1 4, 6, .inr (.inr (.inr (.inr fb))))), (bo_, .inr (0, [.ref sp, .ref pa, .int lt, .ref ru, .ref co, .ref tr])), (co, .inr (1, [.ref bx, .int bc, .int lc, .int mf, .int li])), (bx, .inl (E.2.1 0, 72, .inl fx))] := hD
    refine lv_if_eq (tgt := 49) hx hb dX11_covers_13 (by decide) (fun c_8 => ?_) (fun c_8 => ?_)
    · have b_9 : isPl place = false := bz hw_7 c_8
      refine lv_bipush (v := (-2)) hx hb dX11_covers_49 (by decide) ?_
      have hP9 := hP.sub (ws' := [(h0, .inr (11, [.ref tp, .ref rd, .ref se, .ref ba, .ref of, .ref pl, .ref sr, .ref sc, .int wk])), (ba, .inl (E.2.1 4, 6, .inr (.inr (.inr (.inr fb))))), (bo_, .inr (0, [.ref sp, .ref pa, .int lt, .ref ru, .ref co, .ref tr])), (co, .inr (1, [.ref bx, .int bc, .int lc, .int mf, .int li])), (bx, .inl (E.2.1 0, 72, .inl fx))]) [0, 1, 2, 3, 4] rfl
      have hD9 := hD.sub (ws' := [(h0, .inr (11, [.ref tp, .ref rd, .ref se, .ref ba, .ref of, .ref pl, .ref sr, .ref sc, .int wk])), (ba, .inl (E.2.1 4, 6, .inr (.inr (.inr (.inr fb))))), (bo_, .inr (0, [.ref sp, .ref pa, .int lt, .ref ru, .ref co, .ref tr])), (co, .inr (1, [.ref bx, .int bc, .int lc, .int mf, .int li])), (bx, .inl (E.2.1 0, 72, .inl fx))]) [0, 1, 2, 3, 4] (by decide) rfl
      exact W.iret (v := (-2)) hx hb hr (fun t ht hW => ⟨⟨(-2), (), rfl, trivial, by rw [ht]; exact hP9, hD9⟩, hS.F ht⟩) hS.2.2 dX11_covers_51
    · have b_10 : isPl place = true := bn hw_7 c_8
      refine lv_iload_n hx hb dX11_covers_16 rfl (lv_at hl 3 rfl) ?_
      refine lv_iconst (v := 0) hx hb dX11_covers_17 (by decide) ?_
      refine lv_sipush (v := 999) hx hb dX11_covers_18 (by decide) ?_
      have hPc := hP.sub (ws' := []) [] rfl
      have hDc := hD.sub (ws' := []) [] (by decide) rfl
      have hFc := va_free (wc := []) hD hS hA [] rfl
      refine va_calli (va_runS (As := [.int day, .int 0, .int 999]) (rest := []) ⟨hx, hb, hml, hown, hts⟩ (c_X11_within l E day 0 999 H.size ) (va_cwS 3 hts gX11_covers_X11_within rfl rfl rfl hdS_X11_within ⟨Nat.le_of_ble_eq_true rfl, Nat.le_of_ble_eq_true rfl⟩) ⟨pcW_blind, (pcW_pre hPc hkn hDc hst hS hFc)⟩ rfl rfl hl.1 rfl (lv_room (Nat.le_of_ble_eq_true rfl)) dX11_covers_21 ⟨Nat.le_of_ble_eq_true rfl, Nat.le_of_ble_eq_true rfl⟩) hS (fun q _ h => hFc q h) hFc (fun r_11 u t H1 locs ht hvm hw_12 hB hz1 hk1 hS => ?_)
      obtain ⟨hP1, hD1⟩ := hB
      rw [ht] at hP1
      try dsimp only at hw_12
      obtain ⟨hP, hD⟩ := va_join (wr := [(h0, .inr (11, [.ref tp, .ref rd, .ref se, .ref ba, .ref of, .ref pl, .ref sr, .ref sc, .int wk])), (ba, .inl (E.2.1 4, 6, .inr (.inr (.inr (.inr fb))))), (bo_, .inr (0, [.ref sp, .ref pa, .int lt, .ref ru, .ref co, .ref tr])), (co, .inr (1, [.ref bx, .int bc, .int lc, .int mf, .int li])), (bx, .inl (E.2.1 0, 72, .inl fx))]) (w1 := []) hP hD [] [0, 1, 2, 3, 4] rfl rfl (by decide) (by decide) hk1 hFc hP1 hD1
      generalize H1 = H at hP hS ⊢
      have hP : va_P E.1 vwCl [(h0, .inr (11, [.ref tp, .ref rd, .ref se, .ref ba, .ref of, .ref pl, .ref sr, .ref sc, .int wk])), (ba, .inl (E.2.1 4, 6, .inr (.inr (.inr (.inr fb))))), (bo_, .inr (0, [.ref sp, .ref pa, .int lt, .ref ru, .ref co, .ref tr])), (co, .inr (1, [.ref bx, .int bc, .int lc, .int mf, .int li])), (bx, .inl (E.2.1 0, 72, .inl fx))] H := hP
      have hD : va_D A [(h0, .inr (11, [.ref tp, .ref rd, .ref se, .ref ba, .ref of, .ref pl, .ref sr, .ref sc, .int wk])), (ba, .inl (E.2.1 4, 6, .inr (.inr (.inr (.inr fb))))), (bo_, .inr (0, [.ref sp, .ref pa, .int lt, .ref ru, .ref co, .ref tr])), (co, .inr (1, [.ref bx, .int bc, .int lc, .int mf, .int li])), (bx, .inl (E.2.1 0, 72, .inl fx))] := hD
      refine lv_if_eq (tgt := 49) hx hb dX11_covers_24 (by decide) (fun c_13 => ?_) (fun c_13 => ?_)
      · have b_14 : inR day 0 999 = false := bz hw_12 c_13
        refine lv_bipush (v := (-2)) hx hb dX11_covers_49 (by decide) ?_
        have hP9 := hP.sub (ws' := [(h0, .inr (11, [.ref tp, .ref rd, .ref se, .ref ba, .ref of, .ref pl, .ref sr, .ref sc, .int wk])), (ba, .inl (E.2.1 4, 6, .inr (.inr (.inr (.inr fb))))), (bo_, .inr (0, [.ref sp, .ref pa, .int lt, .ref ru, .ref co, .ref tr])), (co, .inr (1, [.ref bx, .int bc, .int lc, .int mf, .int li])), (bx, .inl (E.2.1 0, 72, .inl fx))]) [0, 1, 2, 3, 4] rfl
        have hD9 := hD.sub (ws' := [(h0, .inr (11, [.ref tp, .ref rd, .ref se, .ref ba, .ref of, .ref pl, .ref sr, .ref sc, .int wk])), (ba, .inl (E.2.1 4, 6, .inr (.inr (.inr (.inr fb))))), (bo_, .inr (0, [.ref sp, .ref pa, .int lt, .ref ru, .ref co, .ref tr])), (co, .inr (1, [.ref bx, .int bc, .int lc, .int mf, .int li])), (bx, .inl (E.2.1 0, 72, .inl fx))]) [0, 1, 2, 3, 4] (by decide) rfl
        exact W.iret (v := (-2)) hx hb hr (fun t ht hW => ⟨⟨(-2), (), rfl, trivial, by rw [ht]; exact hP9, hD9⟩, hS.F ht⟩) hS.2.2 dX11_covers_51
      · have b_15 : inR day 0 999 = true := bn hw_12 c_13
        refine lv_iload hx hb dX11_covers_27 (lv_at hl 4 rfl) ?_
        refine lv_iconst (v := 0) hx hb dX11_covers_29 (by decide) ?_
        refine lv_bipush (v := 9) hx hb dX11_covers_30 (by decide) ?_
        have hPc := hP.sub (ws' := []) [] rfl
        have hDc := hD.sub (ws' := []) [] (by decide) rfl
        have hFc := va_free (wc := []) hD hS hA [] rfl
        refine va_calli (va_runS (As := [.int crew, .int 0, .int 9]) (rest := []) ⟨hx, hb, hml, hown, hts⟩ (c_X11_within l E crew 0 9 H.size ) (va_cwS 3 hts gX11_covers_X11_within rfl rfl rfl hdS_X11_within ⟨Nat.le_of_ble_eq_true rfl, Nat.le_of_ble_eq_true rfl⟩) ⟨pcW_blind, (pcW_pre hPc hkn hDc hst hS hFc)⟩ rfl rfl hl.1 rfl (lv_room (Nat.le_of_ble_eq_true rfl)) dX11_covers_32 ⟨Nat.le_of_ble_eq_true rfl, Nat.le_of_ble_eq_true rfl⟩) hS (fun q _ h => hFc q h) hFc (fun r_16 u t H1 locs ht hvm hw_17 hB hz1 hk1 hS => ?_)
        obtain ⟨hP1, hD1⟩ := hB
        rw [ht] at hP1
        try dsimp only at hw_17
        obtain ⟨hP, hD⟩ := va_join (wr := [(h0, .inr (11, [.ref tp, .ref rd, .ref se, .ref ba, .ref of, .ref pl, .ref sr, .ref sc, .int wk])), (ba, .inl (E.2.1 4, 6, .inr (.inr (.inr (.inr fb))))), (bo_, .inr (0, [.ref sp, .ref pa, .int lt, .ref ru, .ref co, .ref tr])), (co, .inr (1, [.ref bx, .int bc, .int lc, .int mf, .int li])), (bx, .inl (E.2.1 0, 72, .inl fx))]) (w1 := []) hP hD [] [0, 1, 2, 3, 4] rfl rfl (by decide) (by decide) hk1 hFc hP1 hD1
        generalize H1 = H at hP hS ⊢
        have hP : va_P E.1 vwCl [(h0, .inr (11, [.ref tp, .ref rd, .ref se, .ref ba, .ref of, .ref pl, .ref sr, .ref sc, .int wk])), (ba, .inl (E.2.1 4, 6, .inr (.inr (.inr (.inr fb))))), (bo_, .inr (0, [.ref sp, .ref pa, .int lt, .ref ru, .ref co, .ref tr])), (co, .inr (1, [.ref bx, .int bc, .int lc, .int mf, .int li])), (bx, .inl (E.2.1 0, 72, .inl fx))] H := hP
        have hD : va_D A [(h0, .inr (11, [.ref tp, .ref rd, .ref se, .ref ba, .ref of, .ref pl, .ref sr, .ref sc, .int wk])), (ba, .inl (E.2.1 4, 6, .inr (.inr (.inr (.inr fb))))), (bo_, .inr (0, [.ref sp, .ref pa, .int lt, .ref ru, .ref co, .ref tr])), (co, .inr (1, [.ref bx, .int bc, .int lc, .int mf, .int li])), (bx, .inl (E.2.1 0, 72, .inl fx))] := hD
        refine lv_if_eq (tgt := 49) hx hb dX11_covers_35 (by decide) (fun c_18 => ?_) (fun c_18 => ?_)
        · have b_19 : inR crew 0 9 = false := bz hw_17 c_18
          refine lv_bipush (v := (-2)) hx hb dX11_covers_49 (by decide) ?_
          have hP9 := hP.sub (ws' := [(h0, .inr (11, [.ref tp, .ref rd, .ref se, .ref ba, .ref of, .ref pl, .ref sr, .ref sc, .int wk])), (ba, .inl (E.2.1 4, 6, .inr (.inr (.inr (.inr fb))))), (bo_, .inr (0, [.ref sp, .ref pa, .int lt, .ref ru, .ref co, .ref tr])), (co, .inr (1, [.ref bx, .int bc, .int lc, .int mf, .int li])), (bx, .inl (E.2.1 0, 72, .inl fx))]) [0, 1, 2, 3, 4] rfl
          have hD9 := hD.sub (ws' := [(h0, .inr (11, [.ref tp, .ref rd, .ref se, .ref ba, .ref of, .ref pl, .ref sr, .ref sc, .int wk])), (ba, .inl (E.2.1 4, 6, .inr (.inr (.inr (.inr fb))))), (bo_, .inr (0, [.ref sp, .ref pa, .int lt, .ref ru, .ref co, .ref tr])), (co, .inr (1, [.ref bx, .int bc, .int lc, .int mf, .int li])), (bx, .inl (E.2.1 0, 72, .inl fx))]) [0, 1, 2, 3, 4] (by decide) rfl
          exact W.iret (v := (-2)) hx hb hr (fun t ht hW => ⟨⟨(-2), (), rfl, trivial, by rw [ht]; exact hP9, hD9⟩, hS.F ht⟩) hS.2.2 dX11_covers_51
        · have b_20 : inR crew 0 9 = true := bn hw_17 c_18
          refine lv_iload hx hb dX11_covers_38 (lv_at hl 5 rfl) ?_
          refine lv_iconst (v := 0) hx hb dX11_covers_40 (by decide) ?_
          refine lv_bipush (v := 9) hx hb dX11_covers_41 (by decide) ?_
          have hPc := hP.sub (ws' := []) [] rfl
          have hDc := hD.sub (ws' := []) [] (by decide) rfl
          have hFc := va_free (wc := []) hD hS hA [] rfl
          refine va_calli (va_runS (As := [.int force, .int 0, .int 9]) (rest := []) ⟨hx, hb, hml, hown, hts⟩ (c_X11_within l E force 0 9 H.size ) (va_cwS 3 hts gX11_covers_X11_within rfl rfl rfl hdS_X11_within ⟨Nat.le_of_ble_eq_true rfl, Nat.le_of_ble_eq_true rfl⟩) ⟨pcW_blind, (pcW_pre hPc hkn hDc hst hS hFc)⟩ rfl rfl hl.1 rfl (lv_room (Nat.le_of_ble_eq_true rfl)) dX11_covers_43 ⟨Nat.le_of_ble_eq_true rfl, Nat.le_of_ble_eq_true rfl⟩) hS (fun q _ h => hFc q h) hFc (fun r_21 u t H1 locs ht hvm hw_22 hB hz1 hk1 hS => ?_)
          obtain ⟨hP1, hD1⟩ := hB
          rw [ht] at hP1
          try dsimp only at hw_22
          obtain ⟨hP, hD⟩ := va_join (wr := [(h0, .inr (11, [.ref tp, .ref rd, .ref se, .ref ba, .ref of, .ref pl, .ref sr, .ref sc, .int wk])), (ba, .inl (E.2.1 4, 6, .inr (.inr (.inr (.inr fb))))), (bo_, .inr (0, [.ref sp, .ref pa, .int lt, .ref ru, .ref co, .ref tr])), (co, .inr (1, [.ref bx, .int bc, .int lc, .int mf, .int li])), (bx, .inl (E.2.1 0, 72, .inl fx))]) (w1 := []) hP hD [] [0, 1, 2, 3, 4] rfl rfl (by decide) (by decide) hk1 hFc hP1 hD1
          generalize H1 = H at hP hS ⊢
          have hP : va_P E.1 vwCl [(h0, .inr (11, [.ref tp, .ref rd, .ref se, .ref ba, .ref of, .ref pl, .ref sr, .ref sc, .int wk])), (ba, .inl (E.2.1 4, 6, .inr (.inr (.inr (.inr fb))))), (bo_, .inr (0, [.ref sp, .ref pa, .int lt, .ref ru, .ref co, .ref tr])), (co, .inr (1, [.ref bx, .int bc, .int lc, .int mf, .int li])), (bx, .inl (E.2.1 0, 72, .inl fx))] H := hP
          have hD : va_D A [(h0, .inr (11, [.ref tp, .ref rd, .ref se, .ref ba, .ref of, .ref pl, .ref sr, .ref sc, .int wk])), (ba, .inl (E.2.1 4, 6, .inr (.inr (.inr (.inr fb))))), (bo_, .inr (0, [.ref sp, .ref pa, .int lt, .ref ru, .ref co, .ref tr])), (co, .inr (1, [.ref bx, .int bc, .int lc, .int mf, .int li])), (bx, .inl (E.2.1 0, 72, .inl fx))] := hD
          refine lv_if_ne (tgt := 52) hx hb dX11_covers_46 (by decide) (fun c_23 => ?_) (fun c_23 => ?_)
          · have b_24 : inR force 0 9 = true := bn hw_22 c_23
            refine lv_aload_n hx hb dX11_covers_52 rfl (lv_at hl 0 rfl) ?_
            refine va_get (D := E.1) (ci := 11) (v := .ref ba) (C := RX11) (T := TX11) (N := 9) hx hb hts inX11 hown hK hP 0 rfl rfl 3 (by decide) fl34 (fun _ h9 => h9) rfl dX11_covers_53 ?_
            refine lv_iload_n hx hb dX11_covers_56 rfl (lv_at hl 1 rfl) ?_
            have hi_25 : vp_in b 6 := inR_in (by decide) b_5
            refine va_aldq hx hb hK hP 1 4 rfl rfl hi_25 dX11_covers_57 ?_
            rw [show va_rf (fb b.toNatClampNeg) = .ref bo_ from by rw [hfb b_5]; rfl]
            refine va_get (D := E.1) (ci := 0) (v := .ref co) (C := RX0) (T := TX0) (N := 6) hx hb hts inX0 hown hK hP 2 rfl rfl 4 (by decide) fl128 (fun _ h9 => h9) rfl dX11_covers_58 ?_
            refine lv_iload_n hx hb dX11_covers_61 rfl (lv_at hl 2 rfl) ?_
            refine lv_iload_n hx hb dX11_covers_62 rfl (lv_at hl 3 rfl) ?_
            refine lv_iload hx hb dX11_covers_63 (lv_at hl 4 rfl) ?_
            refine lv_iload hx hb dX11_covers_65 (lv_at hl 5 rfl) ?_
            have hPc := hP.sub (ws' := [(co, .inr (1, [.ref bx, .int bc, .int lc, .int mf, .int li])), (bx, .inl (E.2.1 0, 72, .inl fx))]) [3, 4] rfl
            have hDc := hD.sub (ws' := [(co, .inr (1, [.ref bx, .int bc, .int lc, .int mf, .int li])), (bx, .inl (E.2.1 0, 72, .inl fx))]) [3, 4] (by decide) rfl
            have hFc := va_free (wc := [(co, .inr (1, [.ref bx, .int bc, .int lc, .int mf, .int li])), (bx, .inl (E.2.1 0, 72, .inl fx))]) hD hS hA [3, 4] rfl
            refine va_calli (va_runV (As := [.int place, .int day, .int crew, .int force]) (rest := []) ⟨hx, hb, hml, hown, hts⟩ (c_X1_holds l E co bx bc lc mf li fx place day crew force H.size ) (cwV 4 hts gX11_covers_X1_holds rfl rfl rfl hdV_X1_holds ⟨Nat.le_of_ble_eq_true rfl, Nat.le_of_ble_eq_true rfl⟩) ⟨pcW_blind, va_recv hK hPc (ci := 1) (q0 := 0) rfl rfl, (pcW_pre hPc hkn hDc hst hS hFc)⟩ rfl rfl hl.1 rfl (lv_room (Nat.le_of_ble_eq_true rfl)) dX11_covers_67 ⟨Nat.le_of_ble_eq_true rfl, Nat.le_of_ble_eq_true rfl⟩) hS (fun q _ h => hFc q h) hFc (fun r_26 u t H1 locs ht hvm hw_27 hB hz1 hk1 hS => ?_)
            obtain ⟨hP1, hD1⟩ := hB
            rw [ht] at hP1
            try dsimp only at hw_27
            obtain ⟨hP, hD⟩ := va_join (wr := [(h0, .inr (11, [.ref tp, .ref rd, .ref se, .ref ba, .ref of, .ref pl, .ref sr, .ref sc, .int wk])), (ba, .inl (E.2.1 4, 6, .inr (.inr (.inr (.inr fb))))), (bo_, .inr (0, [.ref sp, .ref pa, .int lt, .ref ru, .ref co, .ref tr]))]) (w1 := [(co, .inr (1, [.ref bx, .int bc, .int lc, .int mf, .int li])), (bx, .inl (E.2.1 0, 72, .inl fx))]) hP hD [3, 4] [0, 1, 2] rfl rfl (by decide) (by decide) hk1 hFc hP1 hD1
            generalize H1 = H at hP hS ⊢
            have hP : va_P E.1 vwCl [(h0, .inr (11, [.ref tp, .ref rd, .ref se, .ref ba, .ref of, .ref pl, .ref sr, .ref sc, .int wk])), (ba, .inl (E.2.1 4, 6, .inr (.inr (.inr (.inr fb))))), (bo_, .inr (0, [.ref sp, .ref pa, .int lt, .ref ru, .ref co, .ref tr])), (co, .inr (1, [.ref bx, .int bc, .int lc, .int mf, .int li])), (bx, .inl (E.2.1 0, 72, .inl fx))] H := hP
            have hD : va_D A [(h0, .inr (11, [.ref tp, .ref rd, .ref se, .ref ba, .ref of, .ref pl, .ref sr, .ref sc, .int wk])), (ba, .inl (E.2.1 4, 6, .inr (.inr (.inr (.inr fb))))), (bo_, .inr (0, [.ref sp, .ref pa, .int lt, .ref ru, .ref co, .ref tr])), (co, .inr (1, [.ref bx, .int bc, .int lc, .int mf, .int li])), (bx, .inl (E.2.1 0, 72, .inl fx))] := hD
            refine lv_if_eq (tgt := 77) hx hb dX11_covers_70 (by decide) (fun c_28 => ?_) (fun c_28 => ?_)
            · refine lv_iconst (v := 0) hx hb dX11_covers_77 (by decide) ?_
              have hP9 := hP.sub (ws' := [(h0, .inr (11, [.ref tp, .ref rd, .ref se, .ref ba, .ref of, .ref pl, .ref sr, .ref sc, .int wk])), (ba, .inl (E.2.1 4, 6, .inr (.inr (.inr (.inr fb))))), (bo_, .inr (0, [.ref sp, .ref pa, .int lt, .ref ru, .ref co, .ref tr])), (co, .inr (1, [.ref bx, .int bc, .int lc, .int mf, .int li])), (bx, .inl (E.2.1 0, 72, .inl fx))]) [0, 1, 2, 3, 4] rfl
              have hD9 := hD.sub (ws' := [(h0, .inr (11, [.ref tp, .ref rd, .ref se, .ref ba, .ref of, .ref pl, .ref sr, .ref sc, .int wk])), (ba, .inl (E.2.1 4, 6, .inr (.inr (.inr (.inr fb))))), (bo_, .inr (0, [.ref sp, .ref pa, .int lt, .ref ru, .ref co, .ref tr])), (co, .inr (1, [.ref bx, .int bc, .int lc, .int mf, .int li])), (bx, .inl (E.2.1 0, 72, .inl fx))]) [0, 1, 2, 3, 4] (by decide) rfl
              exact W.iret (v := 0) hx hb hr (fun t ht hW => ⟨⟨0, (), rfl, trivial, by rw [ht]; exact hP9, hD9⟩, hS.F ht⟩) hS.2.2 dX11_covers_78
            · refine lv_iconst (v := 1) hx hb dX11_covers_73 (by decide) ?_
              refine lv_goto (tgt := 78) hx hb dX11_covers_74 (by decide) ?_
              have hP9 := hP.sub (ws' := [(h0, .inr (11, [.ref tp, .ref rd, .ref se, .ref ba, .ref of, .ref pl, .ref sr, .ref sc, .int wk])), (ba, .inl (E.2.1 4, 6, .inr (.inr (.inr (.inr fb))))), (bo_, .inr (0, [.ref sp, .ref pa, .int lt, .ref ru, .ref co, .ref tr])), (co, .inr (1, [.ref bx, .int bc, .int lc, .int mf, .int li])), (bx, .inl (E.2.1 0, 72, .inl fx))]) [0, 1, 2, 3, 4] rfl
              have hD9 := hD.sub (ws' := [(h0, .inr (11, [.ref tp, .ref rd, .ref se, .ref ba, .ref of, .ref pl, .ref sr, .ref sc, .int wk])), (ba, .inl (E.2.1 4, 6, .inr (.inr (.inr (.inr fb))))), (bo_, .inr (0, [.ref sp, .ref pa, .int lt, .ref ru, .ref co, .ref tr])), (co, .inr (1, [.ref bx, .int bc, .int lc, .int mf, .int li])), (bx, .inl (E.2.1 0, 72, .inl fx))]) [0, 1, 2, 3, 4] (by decide) rfl
              exact W.iret (v := 1) hx hb hr (fun t ht hW => ⟨⟨1, (), rfl, trivial, by rw [ht]; exact hP9, hD9⟩, hS.F ht⟩) hS.2.2 dX11_covers_78
          · have b_29 : inR force 0 9 = false := bz hw_22 c_23
            refine lv_bipush (v := (-2)) hx hb dX11_covers_49 (by decide) ?_
            have hP9 := hP.sub (ws' := [(h0, .inr (11, [.ref tp, .ref rd, .ref se, .ref ba, .ref of, .ref pl, .ref sr, .ref sc, .int wk])), (ba, .inl (E.2.1 4, 6, .inr (.inr (.inr (.inr fb))))), (bo_, .inr (0, [.ref sp, .ref pa, .int lt, .ref ru, .ref co, .ref tr])), (co, .inr (1, [.ref bx, .int bc, .int lc, .int mf, .int li])), (bx, .inl (E.2.1 0, 72, .inl fx))]) [0, 1, 2, 3, 4] rfl
            have hD9 := hD.sub (ws' := [(h0, .inr (11, [.ref tp, .ref rd, .ref se, .ref ba, .ref of, .ref pl, .ref sr, .ref sc, .int wk])), (ba, .inl (E.2.1 4, 6, .inr (.inr (.inr (.inr fb))))), (bo_, .inr (0, [.ref sp, .ref pa, .int lt, .ref ru, .ref co, .ref tr])), (co, .inr (1, [.ref bx, .int bc, .int lc, .int mf, .int li])), (bx, .inl (E.2.1 0, 72, .inl fx))]) [0, 1, 2, 3, 4] (by decide) rfl
            exact W.iret (v := (-2)) hx hb hr (fun t ht hW => ⟨⟨(-2), (), rfl, trivial, by rw [ht]; exact hP9, hD9⟩, hS.F ht⟩) hS.2.2 dX11_covers_51
set_option maxHeartbeats 4000000 in
set_option maxRecDepth 100000 in
theorem c_X11_begin (l : Launch) (E : vE) (h0 : Nat) (tp : Nat) (rd : Nat) (se : Nat) (ba : Nat) (of : Nat) (pl : Nat) (sr : Nat) (sc : Nat) (wk : Int32) (bo_ : Nat) (sp : Nat) (pa : Nat) (ru : Nat) (co : Nat) (tr : Nat) (lt : Int32) (fb : Nat → Option Nat) (wy : Nat) (ps : Nat) (wl_ : Int32) (sta : Int32) (hp : Int32) (fd : Int32) (pe : Int32) (at_ : Int32) (go : Int32) (tu : Int32) (wa : Int32) (ce : Int32) (wt : Int32) (un : Int32) (fu : Int32) (dr : Int32) (fy : Nat → Int32) (wi : Nat) (po : Nat) (fo_ : Nat → Int32) (b : Int32) (pt : Int32) (day : Int32) (crew : Int32) (sz : Nat) (hfb : inR b 0 5 = true → fb b.toNatClampNeg = some bo_) (hps : ps ≤ 8) : Met l yX11_begin wsX11_begin ({ frames := 2, cells := 0, slots := 0, locals := 40 }) (pcW E [.ref h0, .int b, .int pt, .int day, .int crew] sz [(h0, .inr (11, [.ref tp, .ref rd, .ref se, .ref ba, .ref of, .ref pl, .ref sr, .ref sc, .int wk])), (ba, .inl (E.2.1 4, 6, .inr (.inr (.inr (.inr fb))))), (bo_, .inr (0, [.ref sp, .ref pa, .int lt, .ref ru, .ref co, .ref tr])), (tr, .inr (4, [.ref wy, .int wl_, .int (nI ps), .int sta, .int hp, .int fd, .int pe, .int at_, .int go, .int tu, .int wa, .int ce, .int wt, .int un, .int fu, .int dr])), (se, .inr (8, [.ref wi, .ref po])), (po, .inl (E.2.1 0, 10, .inl fo_))]) (va_Qi (fun (r : Int32) (u : Nat × Int32 × Int32 × Int32 × Int32 × Int32 × Int32 × Int32 × Int32 × Int32 × Int32 × Int32 × Int32 × Int32 × Int32) => match u with | (ps2, wl_2, sta2, hp2, fd2, pe2, at_2, go2, tu2, wa2, ce2, wt2, un2, fu2, dr2) => True) (fun (u : Nat × Int32 × Int32 × Int32 × Int32 × Int32 × Int32 × Int32 × Int32 × Int32 × Int32 × Int32 × Int32 × Int32 × Int32) (t : State) => match u with | (ps2, wl_2, sta2, hp2, fd2, pe2, at_2, go2, tu2, wa2, ce2, wt2, un2, fu2, dr2) => (ps2 ≤ 8) ∧ wB E (va_A [(h0, .inr (11, [.ref tp, .ref rd, .ref se, .ref ba, .ref of, .ref pl, .ref sr, .ref sc, .int wk])), (ba, .inl (E.2.1 4, 6, .inr (.inr (.inr (.inr fb))))), (bo_, .inr (0, [.ref sp, .ref pa, .int lt, .ref ru, .ref co, .ref tr])), (tr, .inr (4, [.ref wy, .int wl_, .int (nI ps), .int sta, .int hp, .int fd, .int pe, .int at_, .int go, .int tu, .int wa, .int ce, .int wt, .int un, .int fu, .int dr])), (se, .inr (8, [.ref wi, .ref po])), (po, .inl (E.2.1 0, 10, .inl fo_))] sz) [(h0, .inr (11, [.ref tp, .ref rd, .ref se, .ref ba, .ref of, .ref pl, .ref sr, .ref sc, .int wk])), (ba, .inl (E.2.1 4, 6, .inr (.inr (.inr (.inr fb))))), (bo_, .inr (0, [.ref sp, .ref pa, .int lt, .ref ru, .ref co, .ref tr])), (tr, .inr (4, [.ref wy, .int wl_2, .int (nI ps2), .int sta2, .int hp2, .int fd2, .int pe2, .int at_2, .int go2, .int tu2, .int wa2, .int ce2, .int wt2, .int un2, .int fu2, .int dr2])), (se, .inr (8, [.ref wi, .ref po])), (po, .inl (E.2.1 0, 10, .inl fo_))] t) (va_A [(h0, .inr (11, [.ref tp, .ref rd, .ref se, .ref ba, .ref of, .ref pl, .ref sr, .ref sc, .int wk])), (ba, .inl (E.2.1 4, 6, .inr (.inr (.inr (.inr fb))))), (bo_, .inr (0, [.ref sp, .ref pa, .int lt, .ref ru, .ref co, .ref tr])), (tr, .inr (4, [.ref wy, .int wl_, .int (nI ps), .int sta, .int hp, .int fd, .int pe, .int at_, .int go, .int tu, .int wa, .int ce, .int wt, .int un, .int fu, .int dr])), (se, .inr (8, [.ref wi, .ref po])), (po, .inl (E.2.1 0, 10, .inl fo_))] sz)) 0 0 (va_A [(h0, .inr (11, [.ref tp, .ref rd, .ref se, .ref ba, .ref of, .ref pl, .ref sr, .ref sc, .int wk])), (ba, .inl (E.2.1 4, 6, .inr (.inr (.inr (.inr fb))))), (bo_, .inr (0, [.ref sp, .ref pa, .int lt, .ref ru, .ref co, .ref tr])), (tr, .inr (4, [.ref wy, .int wl_, .int (nI ps), .int sta, .int hp, .int fd, .int pe, .int at_, .int go, .int tu, .int wa, .int ce, .int wt, .int un, .int fu, .int dr])), (se, .inr (8, [.ref wi, .ref po])), (po, .inl (E.2.1 0, 10, .inl fo_))] sz) := by
  refine Met.ofW (cc := cX11_begin) (maxL := 5) (ret := (some .int)) (by decide) rfl ?_
  intro p e s m args below meth c s₁ B hml hv
  obtain ⟨rfl, hsz, hP, hkn, hD0, hst⟩ := hv
  have hx := B.exec
  have hb := B.bytes
  have hr := B.returns
  have hts := atoms_spec (ws := wsX11_begin) B.pre
  have hown : s.vm.findClass RX11 = some m.cls := findClass_of_methodNamed B.named
  have hlocks := B.notSynchronized
  subst hsz
  have hD := hD0.self (sz := s.heap.size)
  have hK := hkn.1
  have hAO := hkn.2.2.1
  generalize hAe : va_A [(h0, .inr (11, [.ref tp, .ref rd, .ref se, .ref ba, .ref of, .ref pl, .ref sr, .ref sc, .int wk])), (ba, .inl (E.2.1 4, 6, .inr (.inr (.inr (.inr fb))))), (bo_, .inr (0, [.ref sp, .ref pa, .int lt, .ref ru, .ref co, .ref tr])), (tr, .inr (4, [.ref wy, .int wl_, .int (nI ps), .int sta, .int hp, .int fd, .int pe, .int at_, .int go, .int tu, .int wa, .int ce, .int wt, .int un, .int fu, .int dr])), (se, .inr (8, [.ref wi, .ref po])), (po, .inl (E.2.1 0, 10, .inl fo_))] s.heap.size = A at hD hst ⊢
  have hA : ∀ q : Nat, s.heap.size ≤ q → A q := fun q h => by rw [← hAe]; exact Or.inr h
  have hS : va_S A s.heap s.heap [] := va_S.rf
  have hP : va_P E.1 vwCl [(h0, .inr (11, [.ref tp, .ref rd, .ref se, .ref ba, .ref of, .ref pl, .ref sr, .ref sc, .int wk])), (ba, .inl (E.2.1 4, 6, .inr (.inr (.inr (.inr fb))))), (bo_, .inr (0, [.ref sp, .ref pa, .int lt, .ref ru, .ref co, .ref tr])), (tr, .inr (4, [.ref wy, .int wl_, .int (nI ps), .int sta, .int hp, .int fd, .int pe, .int at_, .int go, .int tu, .int wa, .int ce, .int wt, .int un, .int fu, .int dr])), (se, .inr (8, [.ref wi, .ref po])), (po, .inl (E.2.1 0, 10, .inl fo_))] s.heap := hP
  have hl := lv_entry ([.ref h0, .int b, .int pt, .int day, .int crew]) (n := 5) (Nat.le_of_ble_eq_true rfl)
  rw [lg_entry_eq]
  generalize (lg_sl ([.ref h0, .int b, .int pt, .int day, .int crew]) ++ List.replicate (5 - (lg_sl ([.ref h0, .int b, .int pt, .int day, .int crew])).length) Slot.unset).toArray = ls at hl ⊢
  have hl : lv_has ls 5 [(0, .ref h0), (1, .int b), (2, .int pt), (3, .int day), (4, .int crew)] := hl
  have fl28 := hts (.fieldLink RX11 28 "BoatsHome" "sea" "LBoatsHome$Sea;") (by first | exact List.mem_of_getElem? (i := 4) rfl | decide +kernel)
  have fl34 := hts (.fieldLink RX11 34 "BoatsHome" "boats" "[LBoatsHome$Boat;") (by first | exact List.mem_of_getElem? (i := 1) rfl | decide +kernel)
  have fl96 := hts (.fieldLink RX11 96 "BoatsHome$Sea" "ports" "[I") (by first | exact List.mem_of_getElem? (i := 5) rfl | decide +kernel)
  have fl144 := hts (.fieldLink RX11 144 "BoatsHome$Boat" "trip" "LBoatsHome$Passage;") (by first | exact List.mem_of_getElem? (i := 2) rfl | decide +kernel)
  have fl148 := hts (.fieldLink RX11 148 "BoatsHome$Passage" "state" "I") (by first | exact List.mem_of_getElem? (i := 3) rfl | decide +kernel)
  have inX0 : ∀ w ∈ u_ws RX0 TX0 6, w ∈ wsX11_begin := by first | exact fun w h9 => (List.mem_cons_of_mem _ (List.mem_append_left _ (List.mem_append_left _ (List.mem_append_right _ h9)))) | decide +kernel
  have inX11 : ∀ w ∈ u_ws RX11 TX11 9, w ∈ wsX11_begin := by first | exact fun w h9 => (List.mem_cons_of_mem _ (List.mem_append_left _ (List.mem_append_left _ (List.mem_append_left _ (List.mem_append_right _ h9))))) | decide +kernel
  have inX4 : ∀ w ∈ u_ws RX4 TX4 16, w ∈ wsX11_begin := by first | exact fun w h9 => (List.mem_cons_of_mem _ (List.mem_append_left _ (List.mem_append_right _ h9))) | decide +kernel
  have inX8 : ∀ w ∈ u_ws RX8 TX8 2, w ∈ wsX11_begin := by first | exact fun w h9 => (List.mem_cons_of_mem _ (List.mem_append_right _ h9)) | decide +kernel
  refine lv_iload_n hx hb dX11_begin_0 rfl (lv_at hl 1 rfl) ?_
  refine lv_bipush (v := 6) hx hb dX11_begin_1 (by decide) ?_
  have hPc := hP.sub (ws' := []) [] rfl
  have hDc := hD.sub (ws' := []) [] (by decide) rfl
  have hFc := va_free (wc := []) hD hS hA [] rfl
  refine va_calli (va_runS (As := [.int b, .int 6]) (rest := []) ⟨hx, hb, hml, hown, hts⟩ (c_X11_below l E b 6 5 s.heap.size (lt_le (by decide))) (va_cwS 2 hts gX11_begin_X11_below rfl rfl rfl hdS_X11_below ⟨Nat.le_of_ble_eq_true rfl, Nat.le_of_ble_eq_true rfl⟩) ⟨pcW_blind, (pcW_pre hPc hkn hDc hst hS hFc)⟩ rfl rfl hl.1 rfl (lv_room (Nat.le_of_ble_eq_true rfl)) dX11_begin_3 ⟨Nat.le_of_ble_eq_true rfl, Nat.le_of_ble_eq_true rfl⟩) hS (fun q _ h => hFc q h) hFc (fun r_1 u t H1 locs ht hvm hw_2 hB hz1 hk1 hS => ?_)
  obtain ⟨hP1, hD1⟩ := hB
  rw [ht] at hP1
  try dsimp only at hw_2
  obtain ⟨hP, hD⟩ := va_join (wr := [(h0, .inr (11, [.ref tp, .ref rd, .ref se, .ref ba, .ref of, .ref pl, .ref sr, .ref sc, .int wk])), (ba, .inl (E.2.1 4, 6, .inr (.inr (.inr (.inr fb))))), (bo_, .inr (0, [.ref sp, .ref pa, .int lt, .ref ru, .ref co, .ref tr])), (tr, .inr (4, [.ref wy, .int wl_, .int (nI ps), .int sta, .int hp, .int fd, .int pe, .int at_, .int go, .int tu, .int wa, .int ce, .int wt, .int un, .int fu, .int dr])), (se, .inr (8, [.ref wi, .ref po])), (po, .inl (E.2.1 0, 10, .inl fo_))]) (w1 := []) hP hD [] [0, 1, 2, 3, 4, 5] rfl rfl (by decide) (by decide) hk1 hFc hP1 hD1
  generalize H1 = H at hP hS ⊢
  have hP : va_P E.1 vwCl [(h0, .inr (11, [.ref tp, .ref rd, .ref se, .ref ba, .ref of, .ref pl, .ref sr, .ref sc, .int wk])), (ba, .inl (E.2.1 4, 6, .inr (.inr (.inr (.inr fb))))), (bo_, .inr (0, [.ref sp, .ref pa, .int lt, .ref ru, .ref co, .ref tr])), (tr, .inr (4, [.ref wy, .int wl_, .int (nI ps), .int sta, .int hp, .int fd, .int pe, .int at_, .int go, .int tu, .int wa, .int ce, .int wt, .int un, .int fu, .int dr])), (se, .inr (8, [.ref wi, .ref po])), (po, .inl (E.2.1 0, 10, .inl fo_))] H := hP
  have hD : va_D A [(h0, .inr (11, [.ref tp, .ref rd, .ref se, .ref ba, .ref of, .ref pl, .ref sr, .ref sc, .int wk])), (ba, .inl (E.2.1 4, 6, .inr (.inr (.inr (.inr fb))))), (bo_, .inr (0, [.ref sp, .ref pa, .int lt, .ref ru, .ref co, .ref tr])), (tr, .inr (4, [.ref wy, .int wl_, .int (nI ps), .int sta, .int hp, .int fd, .int pe, .int at_, .int go, .int tu, .int wa, .int ce, .int wt, .int un, .int fu, .int dr])), (se, .inr (8, [.ref wi, .ref po])), (po, .inl (E.2.1 0, 10, .inl fo_))] := hD
  refine lv_if_eq (tgt := 40) hx hb dX11_begin_6 (by decide) (fun c_3 => ?_) (fun c_3 => ?_)
  · have b_4 : inR b 0 5 = false := bz hw_2 c_3
    refine lv_bipush (v := (-2)) hx hb dX11_begin_40 (by decide) ?_
    have hP9 := hP.sub (ws' := [(h0, .inr (11, [.ref tp, .ref rd, .ref se, .ref ba, .ref of, .ref pl, .ref sr, .ref sc, .int wk])), (ba, .inl (E.2.1 4, 6, .inr (.inr (.inr (.inr fb))))), (bo_, .inr (0, [.ref sp, .ref pa, .int lt, .ref ru, .ref co, .ref tr])), (tr, .inr (4, [.ref wy, .int wl_, .int (nI ps), .int sta, .int hp, .int fd, .int pe, .int at_, .int go, .int tu, .int wa, .int ce, .int wt, .int un, .int fu, .int dr])), (se, .inr (8, [.ref wi, .ref po])), (po, .inl (E.2.1 0, 10, .inl fo_))]) [0, 1, 2, 3, 4, 5] rfl
    have hD9 := hD.sub (ws' := [(h0, .inr (11, [.ref tp, .ref rd, .ref se, .ref ba, .ref of, .ref pl, .ref sr, .ref sc, .int wk])), (ba, .inl (E.2.1 4, 6, .inr (.inr (.inr (.inr fb))))), (bo_, .inr (0, [.ref sp, .ref pa, .int lt, .ref ru, .ref co, .ref tr])), (tr, .inr (4, [.ref wy, .int wl_, .int (nI ps), .int sta, .int hp, .int fd, .int pe, .int at_, .int go, .int tu, .int wa, .int ce, .int wt, .int un, .int fu, .int dr])), (se, .inr (8, [.ref wi, .ref po])), (po, .inl (E.2.1 0, 10, .inl fo_))]) [0, 1, 2, 3, 4, 5] (by decide) rfl
    exact W.iret (v := (-2)) hx hb hr (fun t ht hW => ⟨⟨(-2), (ps, wl_, sta, hp, fd, pe, at_, go, tu, wa, ce, wt, un, fu, dr), rfl, trivial, (by omega), by rw [ht]; exact hP9, hD9⟩, hS.F ht⟩) hS.2.2 dX11_begin_42
  · have b_5 : inR b 0 5 = true := bn hw_2 c_3
    refine lv_iload_n hx hb dX11_begin_9 rfl (lv_at hl 2 rfl) ?_
    refine lv_bipush (v := 10) hx hb dX11_begin_10 (by decide) ?_
    have hPc := hP.sub (ws' := []) [] rfl
    have hDc := hD.sub (ws' := []) [] (by decide) rfl
    have hFc := va_free (wc := []) hD hS hA [] rfl
    refine va_calli (va_runS (As := [.int pt, .int 10]) (rest := []) ⟨hx, hb, hml, hown, hts⟩ (c_X11_below l E pt 10 9 H.size (lt_le (by decide))) (va_cwS 2 hts gX11_begin_X11_below rfl rfl rfl hdS_X11_below ⟨Nat.le_of_ble_eq_true rfl, Nat.le_of_ble_eq_true rfl⟩) ⟨pcW_blind, (pcW_pre hPc hkn hDc hst hS hFc)⟩ rfl rfl hl.1 rfl (lv_room (Nat.le_of_ble_eq_true rfl)) dX11_begin_12 ⟨Nat.le_of_ble_eq_true rfl, Nat.le_of_ble_eq_true rfl⟩) hS (fun q _ h => hFc q h) hFc (fun r_6 u t H1 locs ht hvm hw_7 hB hz1 hk1 hS => ?_)
    obtain ⟨hP1, hD1⟩ := hB
    rw [ht] at hP1
    try dsimp only at hw_7
    obtain ⟨hP, hD⟩ := va_join (wr := [(h0, .inr (11, [.ref tp, .ref rd, .ref se, .ref ba, .ref of, .ref pl, .ref sr, .ref sc, .int wk])), (ba, .inl (E.2.1 4, 6, .inr (.inr (.inr (.inr fb))))), (bo_, .inr (0, [.ref sp, .ref pa, .int lt, .ref ru, .ref co, .ref tr])), (tr, .inr (4, [.ref wy, .int wl_, .int (nI ps), .int sta, .int hp, .int fd, .int pe, .int at_, .int go, .int tu, .int wa, .int ce, .int wt, .int un, .int fu, .int dr])), (se, .inr (8, [.ref wi, .ref po])), (po, .inl (E.2.1 0, 10, .inl fo_))]) (w1 := []) hP hD [] [0, 1, 2, 3, 4, 5] rfl rfl (by decide) (by decide) hk1 hFc hP1 hD1
    generalize H1 = H at hP hS ⊢
    have hP : va_P E.1 vwCl [(h0, .inr (11, [.ref tp, .ref rd, .ref se, .ref ba, .ref of, .ref pl, .ref sr, .ref sc, .int wk])), (ba, .inl (E.2.1 4, 6, .inr (.inr (.inr (.inr fb))))), (bo_, .inr (0, [.ref sp, .ref pa, .int lt, .ref ru, .ref co, .ref tr])), (tr, .inr (4, [.ref wy, .int wl_, .int (nI ps), .int sta, .int hp, .int fd, .int pe, .int at_, .int go, .int tu, .int wa, .int ce, .int wt, .int un, .int fu, .int dr])), (se, .inr (8, [.ref wi, .ref po])), (po, .inl (E.2.1 0, 10, .inl fo_))] H := hP
    have hD : va_D A [(h0, .inr (11, [.ref tp, .ref rd, .ref se, .ref ba, .ref of, .ref pl, .ref sr, .ref sc, .int wk])), (ba, .inl (E.2.1 4, 6, .inr (.inr (.inr (.inr fb))))), (bo_, .inr (0, [.ref sp, .ref pa, .int lt, .ref ru, .ref co, .ref tr])), (tr, .inr (4, [.ref wy, .int wl_, .int (nI ps), .int sta, .int hp, .int fd, .int pe, .int at_, .int go, .int tu, .int wa, .int ce, .int wt, .int un, .int fu, .int dr])), (se, .inr (8, [.ref wi, .ref po])), (po, .inl (E.2.1 0, 10, .inl fo_))] := hD
    refine lv_if_eq (tgt := 40) hx hb dX11_begin_15 (by decide) (fun c_8 => ?_) (fun c_8 => ?_)
    · have b_9 : inR pt 0 9 = false := bz hw_7 c_8
      refine lv_bipush (v := (-2)) hx hb dX11_begin_40 (by decide) ?_
      have hP9 := hP.sub (ws' := [(h0, .inr (11, [.ref tp, .ref rd, .ref se, .ref ba, .ref of, .ref pl, .ref sr, .ref sc, .int wk])), (ba, .inl (E.2.1 4, 6, .inr (.inr (.inr (.inr fb))))), (bo_, .inr (0, [.ref sp, .ref pa, .int lt, .ref ru, .ref co, .ref tr])), (tr, .inr (4, [.ref wy, .int wl_, .int (nI ps), .int sta, .int hp, .int fd, .int pe, .int at_, .int go, .int tu, .int wa, .int ce, .int wt, .int un, .int fu, .int dr])), (se, .inr (8, [.ref wi, .ref po])), (po, .inl (E.2.1 0, 10, .inl fo_))]) [0, 1, 2, 3, 4, 5] rfl
      have hD9 := hD.sub (ws' := [(h0, .inr (11, [.ref tp, .ref rd, .ref se, .ref ba, .ref of, .ref pl, .ref sr, .ref sc, .int wk])), (ba, .inl (E.2.1 4, 6, .inr (.inr (.inr (.inr fb))))), (bo_, .inr (0, [.ref sp, .ref pa, .int lt, .ref ru, .ref co, .ref tr])), (tr, .inr (4, [.ref wy, .int wl_, .int (nI ps), .int sta, .int hp, .int fd, .int pe, .int at_, .int go, .int tu, .int wa, .int ce, .int wt, .int un, .int fu, .int dr])), (se, .inr (8, [.ref wi, .ref po])), (po, .inl (E.2.1 0, 10, .inl fo_))]) [0, 1, 2, 3, 4, 5] (by decide) rfl
      exact W.iret (v := (-2)) hx hb hr (fun t ht hW => ⟨⟨(-2), (ps, wl_, sta, hp, fd, pe, at_, go, tu, wa, ce, wt, un, fu, dr), rfl, trivial, (by omega), by rw [ht]; exact hP9, hD9⟩, hS.F ht⟩) hS.2.2 dX11_begin_42
    · have b_10 : inR pt 0 9 = true := bn hw_7 c_8
      refine lv_iload_n hx hb dX11_begin_18 rfl (lv_at hl 3 rfl) ?_
      refine lv_iconst (v := 0) hx hb dX11_begin_19 (by decide) ?_
      refine lv_sipush (v := 499) hx hb dX11_begin_20 (by decide) ?_
      have hPc := hP.sub (ws' := []) [] rfl
      have hDc := hD.sub (ws' := []) [] (by decide) rfl
      have hFc := va_free (wc := []) hD hS hA [] rfl
      refine va_calli (va_runS (As := [.int day, .int 0, .int 499]) (rest := []) ⟨hx, hb, hml, hown, hts⟩ (c_X11_within l E day 0 499 H.size ) (va_cwS 3 hts gX11_begin_X11_within rfl rfl rfl hdS_X11_within ⟨Nat.le_of_ble_eq_true rfl, Nat.le_of_ble_eq_true rfl⟩) ⟨pcW_blind, (pcW_pre hPc hkn hDc hst hS hFc)⟩ rfl rfl hl.1 rfl (lv_room (Nat.le_of_ble_eq_true rfl)) dX11_begin_23 ⟨Nat.le_of_ble_eq_true rfl, Nat.le_of_ble_eq_true rfl⟩) hS (fun q _ h => hFc q h) hFc (fun r_11 u t H1 locs ht hvm hw_12 hB hz1 hk1 hS => ?_)
      obtain ⟨hP1, hD1⟩ := hB
      rw [ht] at hP1
      try dsimp only at hw_12
      obtain ⟨hP, hD⟩ := va_join (wr := [(h0, .inr (11, [.ref tp, .ref rd, .ref se, .ref ba, .ref of, .ref pl, .ref sr, .ref sc, .int wk])), (ba, .inl (E.2.1 4, 6, .inr (.inr (.inr (.inr fb))))), (bo_, .inr (0, [.ref sp, .ref pa, .int lt, .ref ru, .ref co, .ref tr])), (tr, .inr (4, [.ref wy, .int wl_, .int (nI ps), .int sta, .int hp, .int fd, .int pe, .int at_, .int go, .int tu, .int wa, .int ce, .int wt, .int un, .int fu, .int dr])), (se, .inr (8, [.ref wi, .ref po])), (po, .inl (E.2.1 0, 10, .inl fo_))]) (w1 := []) hP hD [] [0, 1, 2, 3, 4, 5] rfl rfl (by decide) (by decide) hk1 hFc hP1 hD1
      generalize H1 = H at hP hS ⊢
      have hP : va_P E.1 vwCl [(h0, .inr (11, [.ref tp, .ref rd, .ref se, .ref ba, .ref of, .ref pl, .ref sr, .ref sc, .int wk])), (ba, .inl (E.2.1 4, 6, .inr (.inr (.inr (.inr fb))))), (bo_, .inr (0, [.ref sp, .ref pa, .int lt, .ref ru, .ref co, .ref tr])), (tr, .inr (4, [.ref wy, .int wl_, .int (nI ps), .int sta, .int hp, .int fd, .int pe, .int at_, .int go, .int tu, .int wa, .int ce, .int wt, .int un, .int fu, .int dr])), (se, .inr (8, [.ref wi, .ref po])), (po, .inl (E.2.1 0, 10, .inl fo_))] H := hP
      have hD : va_D A [(h0, .inr (11, [.ref tp, .ref rd, .ref se, .ref ba, .ref of, .ref pl, .ref sr, .ref sc, .int wk])), (ba, .inl (E.2.1 4, 6, .inr (.inr (.inr (.inr fb))))), (bo_, .inr (0, [.ref sp, .ref pa, .int lt, .ref ru, .ref co, .ref tr])), (tr, .inr (4, [.ref wy, .int wl_, .int (nI ps), .int sta, .int hp, .int fd, .int pe, .int at_, .int go, .int tu, .int wa, .int ce, .int wt, .int un, .int fu, .int dr])), (se, .inr (8, [.ref wi, .ref po])), (po, .inl (E.2.1 0, 10, .inl fo_))] := hD
      refine lv_if_eq (tgt := 40) hx hb dX11_begin_26 (by decide) (fun c_13 => ?_) (fun c_13 => ?_)
      · have b_14 : inR day 0 499 = false := bz hw_12 c_13
        refine lv_bipush (v := (-2)) hx hb dX11_begin_40 (by decide) ?_
        have hP9 := hP.sub (ws' := [(h0, .inr (11, [.ref tp, .ref rd, .ref se, .ref ba, .ref of, .ref pl, .ref sr, .ref sc, .int wk])), (ba, .inl (E.2.1 4, 6, .inr (.inr (.inr (.inr fb))))), (bo_, .inr (0, [.ref sp, .ref pa, .int lt, .ref ru, .ref co, .ref tr])), (tr, .inr (4, [.ref wy, .int wl_, .int (nI ps), .int sta, .int hp, .int fd, .int pe, .int at_, .int go, .int tu, .int wa, .int ce, .int wt, .int un, .int fu, .int dr])), (se, .inr (8, [.ref wi, .ref po])), (po, .inl (E.2.1 0, 10, .inl fo_))]) [0, 1, 2, 3, 4, 5] rfl
        have hD9 := hD.sub (ws' := [(h0, .inr (11, [.ref tp, .ref rd, .ref se, .ref ba, .ref of, .ref pl, .ref sr, .ref sc, .int wk])), (ba, .inl (E.2.1 4, 6, .inr (.inr (.inr (.inr fb))))), (bo_, .inr (0, [.ref sp, .ref pa, .int lt, .ref ru, .ref co, .ref tr])), (tr, .inr (4, [.ref wy, .int wl_, .int (nI ps), .int sta, .int hp, .int fd, .int pe, .int at_, .int go, .int tu, .int wa, .int ce, .int wt, .int un, .int fu, .int dr])), (se, .inr (8, [.ref wi, .ref po])), (po, .inl (E.2.1 0, 10, .inl fo_))]) [0, 1, 2, 3, 4, 5] (by decide) rfl
        exact W.iret (v := (-2)) hx hb hr (fun t ht hW => ⟨⟨(-2), (ps, wl_, sta, hp, fd, pe, at_, go, tu, wa, ce, wt, un, fu, dr), rfl, trivial, (by omega), by rw [ht]; exact hP9, hD9⟩, hS.F ht⟩) hS.2.2 dX11_begin_42
      · have b_15 : inR day 0 499 = true := bn hw_12 c_13
        refine lv_iload hx hb dX11_begin_29 (lv_at hl 4 rfl) ?_
        refine lv_iconst (v := 1) hx hb dX11_begin_31 (by decide) ?_
        refine lv_bipush (v := 9) hx hb dX11_begin_32 (by decide) ?_
        have hPc := hP.sub (ws' := []) [] rfl
        have hDc := hD.sub (ws' := []) [] (by decide) rfl
        have hFc := va_free (wc := []) hD hS hA [] rfl
        refine va_calli (va_runS (As := [.int crew, .int 1, .int 9]) (rest := []) ⟨hx, hb, hml, hown, hts⟩ (c_X11_within l E crew 1 9 H.size ) (va_cwS 3 hts gX11_begin_X11_within rfl rfl rfl hdS_X11_within ⟨Nat.le_of_ble_eq_true rfl, Nat.le_of_ble_eq_true rfl⟩) ⟨pcW_blind, (pcW_pre hPc hkn hDc hst hS hFc)⟩ rfl rfl hl.1 rfl (lv_room (Nat.le_of_ble_eq_true rfl)) dX11_begin_34 ⟨Nat.le_of_ble_eq_true rfl, Nat.le_of_ble_eq_true rfl⟩) hS (fun q _ h => hFc q h) hFc (fun r_16 u t H1 locs ht hvm hw_17 hB hz1 hk1 hS => ?_)
        obtain ⟨hP1, hD1⟩ := hB
        rw [ht] at hP1
        try dsimp only at hw_17
        obtain ⟨hP, hD⟩ := va_join (wr := [(h0, .inr (11, [.ref tp, .ref rd, .ref se, .ref ba, .ref of, .ref pl, .ref sr, .ref sc, .int wk])), (ba, .inl (E.2.1 4, 6, .inr (.inr (.inr (.inr fb))))), (bo_, .inr (0, [.ref sp, .ref pa, .int lt, .ref ru, .ref co, .ref tr])), (tr, .inr (4, [.ref wy, .int wl_, .int (nI ps), .int sta, .int hp, .int fd, .int pe, .int at_, .int go, .int tu, .int wa, .int ce, .int wt, .int un, .int fu, .int dr])), (se, .inr (8, [.ref wi, .ref po])), (po, .inl (E.2.1 0, 10, .inl fo_))]) (w1 := []) hP hD [] [0, 1, 2, 3, 4, 5] rfl rfl (by decide) (by decide) hk1 hFc hP1 hD1
        generalize H1 = H at hP hS ⊢
        have hP : va_P E.1 vwCl [(h0, .inr (11, [.ref tp, .ref rd, .ref se, .ref ba, .ref of, .ref pl, .ref sr, .ref sc, .int wk])), (ba, .inl (E.2.1 4, 6, .inr (.inr (.inr (.inr fb))))), (bo_, .inr (0, [.ref sp, .ref pa, .int lt, .ref ru, .ref co, .ref tr])), (tr, .inr (4, [.ref wy, .int wl_, .int (nI ps), .int sta, .int hp, .int fd, .int pe, .int at_, .int go, .int tu, .int wa, .int ce, .int wt, .int un, .int fu, .int dr])), (se, .inr (8, [.ref wi, .ref po])), (po, .inl (E.2.1 0, 10, .inl fo_))] H := hP
        have hD : va_D A [(h0, .inr (11, [.ref tp, .ref rd, .ref se, .ref ba, .ref of, .ref pl, .ref sr, .ref sc, .int wk])), (ba, .inl (E.2.1 4, 6, .inr (.inr (.inr (.inr fb))))), (bo_, .inr (0, [.ref sp, .ref pa, .int lt, .ref ru, .ref co, .ref tr])), (tr, .inr (4, [.ref wy, .int wl_, .int (nI ps), .int sta, .int hp, .int fd, .int pe, .int at_, .int go, .int tu, .int wa, .int ce, .int wt, .int un, .int fu, .int dr])), (se, .inr (8, [.ref wi, .ref po])), (po, .inl (E.2.1 0, 10, .inl fo_))] := hD
        refine lv_if_ne (tgt := 43) hx hb dX11_begin_37 (by decide) (fun c_18 => ?_) (fun c_18 => ?_)
        · have b_19 : inR crew 1 9 = true := bn hw_17 c_18
          refine lv_aload_n hx hb dX11_begin_43 rfl (lv_at hl 0 rfl) ?_
          refine va_get (D := E.1) (ci := 11) (v := .ref ba) (C := RX11) (T := TX11) (N := 9) hx hb hts inX11 hown hK hP 0 rfl rfl 3 (by decide) fl34 (fun _ h9 => h9) rfl dX11_begin_44 ?_
          refine lv_iload_n hx hb dX11_begin_47 rfl (lv_at hl 1 rfl) ?_
          have hi_20 : vp_in b 6 := inR_in (by decide) b_5
          refine va_aldq hx hb hK hP 1 4 rfl rfl hi_20 dX11_begin_48 ?_
          rw [show va_rf (fb b.toNatClampNeg) = .ref bo_ from by rw [hfb b_5]; rfl]
          refine va_get (D := E.1) (ci := 0) (v := .ref tr) (C := RX0) (T := TX0) (N := 6) hx hb hts inX0 hown hK hP 2 rfl rfl 5 (by decide) fl144 (fun _ h9 => h9) rfl dX11_begin_49 ?_
          refine va_get (D := E.1) (ci := 4) (v := .int sta) (C := RX4) (T := TX4) (N := 16) hx hb hts inX4 hown hK hP 3 rfl rfl 3 (by decide) fl148 (fun _ h9 => h9) rfl dX11_begin_52 ?_
          refine lv_if_ne (tgt := 61) hx hb dX11_begin_55 (by decide) (fun c_21 => ?_) (fun c_21 => ?_)
          · refine lv_aload_n hx hb dX11_begin_61 rfl (lv_at hl 0 rfl) ?_
            refine va_get (D := E.1) (ci := 11) (v := .ref ba) (C := RX11) (T := TX11) (N := 9) hx hb hts inX11 hown hK hP 0 rfl rfl 3 (by decide) fl34 (fun _ h9 => h9) rfl dX11_begin_62 ?_
            refine lv_iload_n hx hb dX11_begin_65 rfl (lv_at hl 1 rfl) ?_
            refine va_aldq hx hb hK hP 1 4 rfl rfl hi_20 dX11_begin_66 ?_
            rw [show va_rf (fb b.toNatClampNeg) = .ref bo_ from by rw [hfb b_5]; rfl]
            refine va_get (D := E.1) (ci := 0) (v := .ref tr) (C := RX0) (T := TX0) (N := 6) hx hb hts inX0 hown hK hP 2 rfl rfl 5 (by decide) fl144 (fun _ h9 => h9) rfl dX11_begin_67 ?_
            refine lv_iload_n hx hb dX11_begin_70 rfl (lv_at hl 2 rfl) ?_
            refine lv_aload_n hx hb dX11_begin_71 rfl (lv_at hl 0 rfl) ?_
            refine va_get (D := E.1) (ci := 11) (v := .ref se) (C := RX11) (T := TX11) (N := 9) hx hb hts inX11 hown hK hP 0 rfl rfl 2 (by decide) fl28 (fun _ h9 => h9) rfl dX11_begin_72 ?_
            refine va_get (D := E.1) (ci := 8) (v := .ref po) (C := RX8) (T := TX8) (N := 2) hx hb hts inX8 hown hK hP 4 rfl rfl 1 (by decide) fl96 (fun _ h9 => h9) rfl dX11_begin_75 ?_
            refine lv_iload_n hx hb dX11_begin_78 rfl (lv_at hl 2 rfl) ?_
            have hi_22 : vp_in pt 10 := inR_in (by decide) b_10
            refine va_iald hx hb hK hP 5 0 rfl rfl hi_22 dX11_begin_79 ?_
            refine lv_topi (fun x_23 ex_23 => ?_)
            refine lv_iload_n hx hb dX11_begin_80 rfl (lv_at hl 3 rfl) ?_
            refine lv_iload hx hb dX11_begin_81 (lv_at hl 4 rfl) ?_
            have hPc := hP.sub (ws' := [(tr, .inr (4, [.ref wy, .int wl_, .int (nI ps), .int sta, .int hp, .int fd, .int pe, .int at_, .int go, .int tu, .int wa, .int ce, .int wt, .int un, .int fu, .int dr]))]) [3] rfl
            have hDc := hD.sub (ws' := [(tr, .inr (4, [.ref wy, .int wl_, .int (nI ps), .int sta, .int hp, .int fd, .int pe, .int at_, .int go, .int tu, .int wa, .int ce, .int wt, .int un, .int fu, .int dr]))]) [3] (by decide) rfl
            have hFc := va_free (wc := [(tr, .inr (4, [.ref wy, .int wl_, .int (nI ps), .int sta, .int hp, .int fd, .int pe, .int at_, .int go, .int tu, .int wa, .int ce, .int wt, .int un, .int fu, .int dr]))]) hD hS hA [3] rfl
            refine va_callv (va_runV (As := [.int pt, .int x_23, .int day, .int crew]) (rest := []) ⟨hx, hb, hml, hown, hts⟩ (c_X4_start l E tr wy ps wl_ sta hp fd pe at_ go tu wa ce wt un fu dr (fun _ => 0) pt x_23 day crew H.size ) (cwV 4 hts gX11_begin_X4_start rfl rfl rfl hdV_X4_start ⟨Nat.le_of_ble_eq_true rfl, Nat.le_of_ble_eq_true rfl⟩) ⟨pcW_blind, va_recv hK hPc (ci := 4) (q0 := 0) rfl rfl, (pcW_pre hPc hkn hDc hst hS hFc)⟩ rfl rfl hl.1 rfl (lv_room (Nat.le_of_ble_eq_true rfl)) dX11_begin_83 ⟨Nat.le_of_ble_eq_true rfl, Nat.le_of_ble_eq_true rfl⟩) hS (fun q _ h => hFc q h) hFc (fun u t H1 locs ht hvm hw_25 hB hz1 hk1 hS => ?_)
            obtain ⟨hP1, hD1⟩ := hB
            rw [ht] at hP1
            try dsimp only at hw_25
            obtain ⟨hP, hD⟩ := va_join (wr := [(h0, .inr (11, [.ref tp, .ref rd, .ref se, .ref ba, .ref of, .ref pl, .ref sr, .ref sc, .int wk])), (ba, .inl (E.2.1 4, 6, .inr (.inr (.inr (.inr fb))))), (bo_, .inr (0, [.ref sp, .ref pa, .int lt, .ref ru, .ref co, .ref tr])), (se, .inr (8, [.ref wi, .ref po])), (po, .inl (E.2.1 0, 10, .inl fo_))]) (w1 := [(tr, .inr (4, [.ref wy, .int 0, .int 0, .int 0, .int pt, .int day, .int crew, .int x_23, .int 0, .int 0, .int 0, .int 0, .int 0, .int 0, .int (-1), .int 0]))]) hP hD [3] [0, 1, 2, 4, 5] rfl rfl (by decide) (by decide) hk1 hFc hP1 hD1
            generalize H1 = H at hP hS ⊢
            have hP : va_P E.1 vwCl [(h0, .inr (11, [.ref tp, .ref rd, .ref se, .ref ba, .ref of, .ref pl, .ref sr, .ref sc, .int wk])), (ba, .inl (E.2.1 4, 6, .inr (.inr (.inr (.inr fb))))), (bo_, .inr (0, [.ref sp, .ref pa, .int lt, .ref ru, .ref co, .ref tr])), (se, .inr (8, [.ref wi, .ref po])), (po, .inl (E.2.1 0, 10, .inl fo_)), (tr, .inr (4, [.ref wy, .int 0, .int 0, .int 0, .int pt, .int day, .int crew, .int x_23, .int 0, .int 0, .int 0, .int 0, .int 0, .int 0, .int (-1), .int 0]))] H := hP
            have hD : va_D A [(h0, .inr (11, [.ref tp, .ref rd, .ref se, .ref ba, .ref of, .ref pl, .ref sr, .ref sc, .int wk])), (ba, .inl (E.2.1 4, 6, .inr (.inr (.inr (.inr fb))))), (bo_, .inr (0, [.ref sp, .ref pa, .int lt, .ref ru, .ref co, .ref tr])), (se, .inr (8, [.ref wi, .ref po])), (po, .inl (E.2.1 0, 10, .inl fo_)), (tr, .inr (4, [.ref wy, .int 0, .int 0, .int 0, .int pt, .int day, .int crew, .int x_23, .int 0, .int 0, .int 0, .int 0, .int 0, .int 0, .int (-1), .int 0]))] := hD
            refine lv_iconst (v := 1) hx hb dX11_begin_86 (by decide) ?_
            have hP9 := hP.sub (ws' := [(h0, .inr (11, [.ref tp, .ref rd, .ref se, .ref ba, .ref of, .ref pl, .ref sr, .ref sc, .int wk])), (ba, .inl (E.2.1 4, 6, .inr (.inr (.inr (.inr fb))))), (bo_, .inr (0, [.ref sp, .ref pa, .int lt, .ref ru, .ref co, .ref tr])), (tr, .inr (4, [.ref wy, .int 0, .int 0, .int 0, .int pt, .int day, .int crew, .int x_23, .int 0, .int 0, .int 0, .int 0, .int 0, .int 0, .int (-1), .int 0])), (se, .inr (8, [.ref wi, .ref po])), (po, .inl (E.2.1 0, 10, .inl fo_))]) [0, 1, 2, 5, 3, 4] rfl
            have hD9 := hD.sub (ws' := [(h0, .inr (11, [.ref tp, .ref rd, .ref se, .ref ba, .ref of, .ref pl, .ref sr, .ref sc, .int wk])), (ba, .inl (E.2.1 4, 6, .inr (.inr (.inr (.inr fb))))), (bo_, .inr (0, [.ref sp, .ref pa, .int lt, .ref ru, .ref co, .ref tr])), (tr, .inr (4, [.ref wy, .int 0, .int 0, .int 0, .int pt, .int day, .int crew, .int x_23, .int 0, .int 0, .int 0, .int 0, .int 0, .int 0, .int (-1), .int 0])), (se, .inr (8, [.ref wi, .ref po])), (po, .inl (E.2.1 0, 10, .inl fo_))]) [0, 1, 2, 5, 3, 4] (by decide) rfl
            exact W.iret (v := 1) hx hb hr (fun t ht hW => ⟨⟨1, (0, 0, 0, pt, day, crew, x_23, 0, 0, 0, 0, 0, 0, (-1), 0), rfl, trivial, (by omega), by rw [ht]; exact hP9, hD9⟩, hS.F ht⟩) hS.2.2 dX11_begin_87
          · refine lv_bipush (v := (-4)) hx hb dX11_begin_58 (by decide) ?_
            have hP9 := hP.sub (ws' := [(h0, .inr (11, [.ref tp, .ref rd, .ref se, .ref ba, .ref of, .ref pl, .ref sr, .ref sc, .int wk])), (ba, .inl (E.2.1 4, 6, .inr (.inr (.inr (.inr fb))))), (bo_, .inr (0, [.ref sp, .ref pa, .int lt, .ref ru, .ref co, .ref tr])), (tr, .inr (4, [.ref wy, .int wl_, .int (nI ps), .int sta, .int hp, .int fd, .int pe, .int at_, .int go, .int tu, .int wa, .int ce, .int wt, .int un, .int fu, .int dr])), (se, .inr (8, [.ref wi, .ref po])), (po, .inl (E.2.1 0, 10, .inl fo_))]) [0, 1, 2, 3, 4, 5] rfl
            have hD9 := hD.sub (ws' := [(h0, .inr (11, [.ref tp, .ref rd, .ref se, .ref ba, .ref of, .ref pl, .ref sr, .ref sc, .int wk])), (ba, .inl (E.2.1 4, 6, .inr (.inr (.inr (.inr fb))))), (bo_, .inr (0, [.ref sp, .ref pa, .int lt, .ref ru, .ref co, .ref tr])), (tr, .inr (4, [.ref wy, .int wl_, .int (nI ps), .int sta, .int hp, .int fd, .int pe, .int at_, .int go, .int tu, .int wa, .int ce, .int wt, .int un, .int fu, .int dr])), (se, .inr (8, [.ref wi, .ref po])), (po, .inl (E.2.1 0, 10, .inl fo_))]) [0, 1, 2, 3, 4, 5] (by decide) rfl
            exact W.iret (v := (-4)) hx hb hr (fun t ht hW => ⟨⟨(-4), (ps, wl_, sta, hp, fd, pe, at_, go, tu, wa, ce, wt, un, fu, dr), rfl, trivial, (by omega), by rw [ht]; exact hP9, hD9⟩, hS.F ht⟩) hS.2.2 dX11_begin_60
        · have b_26 : inR crew 1 9 = false := bz hw_17 c_18
          refine lv_bipush (v := (-2)) hx hb dX11_begin_40 (by decide) ?_
          have hP9 := hP.sub (ws' := [(h0, .inr (11, [.ref tp, .ref rd, .ref se, .ref ba, .ref of, .ref pl, .ref sr, .ref sc, .int wk])), (ba, .inl (E.2.1 4, 6, .inr (.inr (.inr (.inr fb))))), (bo_, .inr (0, [.ref sp, .ref pa, .int lt, .ref ru, .ref co, .ref tr])), (tr, .inr (4, [.ref wy, .int wl_, .int (nI ps), .int sta, .int hp, .int fd, .int pe, .int at_, .int go, .int tu, .int wa, .int ce, .int wt, .int un, .int fu, .int dr])), (se, .inr (8, [.ref wi, .ref po])), (po, .inl (E.2.1 0, 10, .inl fo_))]) [0, 1, 2, 3, 4, 5] rfl
          have hD9 := hD.sub (ws' := [(h0, .inr (11, [.ref tp, .ref rd, .ref se, .ref ba, .ref of, .ref pl, .ref sr, .ref sc, .int wk])), (ba, .inl (E.2.1 4, 6, .inr (.inr (.inr (.inr fb))))), (bo_, .inr (0, [.ref sp, .ref pa, .int lt, .ref ru, .ref co, .ref tr])), (tr, .inr (4, [.ref wy, .int wl_, .int (nI ps), .int sta, .int hp, .int fd, .int pe, .int at_, .int go, .int tu, .int wa, .int ce, .int wt, .int un, .int fu, .int dr])), (se, .inr (8, [.ref wi, .ref po])), (po, .inl (E.2.1 0, 10, .inl fo_))]) [0, 1, 2, 3, 4, 5] (by decide) rfl
          exact W.iret (v := (-2)) hx hb hr (fun t ht hW => ⟨⟨(-2), (ps, wl_, sta, hp, fd, pe, at_, go, tu, wa, ce, wt, un, fu, dr), rfl, trivial, (by omega), by rw [ht]; exact hP9, hD9⟩, hS.F ht⟩) hS.2.2 dX11_begin_42
set_option maxHeartbeats 4000000 in
set_option maxRecDepth 100000 in
theorem c_X11_place (l : Launch) (E : vE) (h0 : Nat) (tp : Nat) (rd : Nat) (se : Nat) (ba : Nat) (of : Nat) (pl : Nat) (sr : Nat) (sc : Nat) (wk : Int32) (bo_ : Nat) (sp : Nat) (pa : Nat) (ru : Nat) (co : Nat) (tr : Nat) (lt : Int32) (fb : Nat → Option Nat) (wy : Nat) (ps : Nat) (wl_ : Int32) (sta : Int32) (hp : Int32) (fd : Int32) (pe : Int32) (at_ : Int32) (go : Int32) (tu : Int32) (wa : Int32) (ce : Int32) (wt : Int32) (un : Int32) (fu : Int32) (dr : Int32) (fy : Nat → Int32) (b : Int32) (place : Int32) (sz : Nat) (hfb : inR b 0 5 = true → fb b.toNatClampNeg = some bo_) : Met l yX11_place wsX11_place ({ frames := 2, cells := 0, slots := 0, locals := 42 }) (pcW E [.ref h0, .int b, .int place] sz [(h0, .inr (11, [.ref tp, .ref rd, .ref se, .ref ba, .ref of, .ref pl, .ref sr, .ref sc, .int wk])), (ba, .inl (E.2.1 4, 6, .inr (.inr (.inr (.inr fb))))), (bo_, .inr (0, [.ref sp, .ref pa, .int lt, .ref ru, .ref co, .ref tr])), (tr, .inr (4, [.ref wy, .int wl_, .int (nI ps), .int sta, .int hp, .int fd, .int pe, .int at_, .int go, .int tu, .int wa, .int ce, .int wt, .int un, .int fu, .int dr])), (wy, .inl (E.2.1 0, 8, .inl fy))]) (va_Qi (fun (r : Int32) (u : Int32 × (Nat → Int32)) => match u with | (wl_2, fy2) => True) (fun (u : Int32 × (Nat → Int32)) (t : State) => match u with | (wl_2, fy2) => wB E (va_A [(h0, .inr (11, [.ref tp, .ref rd, .ref se, .ref ba, .ref of, .ref pl, .ref sr, .ref sc, .int wk])), (ba, .inl (E.2.1 4, 6, .inr (.inr (.inr (.inr fb))))), (bo_, .inr (0, [.ref sp, .ref pa, .int lt, .ref ru, .ref co, .ref tr])), (tr, .inr (4, [.ref wy, .int wl_, .int (nI ps), .int sta, .int hp, .int fd, .int pe, .int at_, .int go, .int tu, .int wa, .int ce, .int wt, .int un, .int fu, .int dr])), (wy, .inl (E.2.1 0, 8, .inl fy))] sz) [(h0, .inr (11, [.ref tp, .ref rd, .ref se, .ref ba, .ref of, .ref pl, .ref sr, .ref sc, .int wk])), (ba, .inl (E.2.1 4, 6, .inr (.inr (.inr (.inr fb))))), (bo_, .inr (0, [.ref sp, .ref pa, .int lt, .ref ru, .ref co, .ref tr])), (tr, .inr (4, [.ref wy, .int wl_2, .int (nI ps), .int sta, .int hp, .int fd, .int pe, .int at_, .int go, .int tu, .int wa, .int ce, .int wt, .int un, .int fu, .int dr])), (wy, .inl (E.2.1 0, 8, .inl fy2))] t) (va_A [(h0, .inr (11, [.ref tp, .ref rd, .ref se, .ref ba, .ref of, .ref pl, .ref sr, .ref sc, .int wk])), (ba, .inl (E.2.1 4, 6, .inr (.inr (.inr (.inr fb))))), (bo_, .inr (0, [.ref sp, .ref pa, .int lt, .ref ru, .ref co, .ref tr])), (tr, .inr (4, [.ref wy, .int wl_, .int (nI ps), .int sta, .int hp, .int fd, .int pe, .int at_, .int go, .int tu, .int wa, .int ce, .int wt, .int un, .int fu, .int dr])), (wy, .inl (E.2.1 0, 8, .inl fy))] sz)) 0 0 (va_A [(h0, .inr (11, [.ref tp, .ref rd, .ref se, .ref ba, .ref of, .ref pl, .ref sr, .ref sc, .int wk])), (ba, .inl (E.2.1 4, 6, .inr (.inr (.inr (.inr fb))))), (bo_, .inr (0, [.ref sp, .ref pa, .int lt, .ref ru, .ref co, .ref tr])), (tr, .inr (4, [.ref wy, .int wl_, .int (nI ps), .int sta, .int hp, .int fd, .int pe, .int at_, .int go, .int tu, .int wa, .int ce, .int wt, .int un, .int fu, .int dr])), (wy, .inl (E.2.1 0, 8, .inl fy))] sz) := by
  refine Met.ofW (cc := cX11_place) (maxL := 4) (ret := (some .int)) (by decide) rfl ?_
  intro p e s m args below meth c s₁ B hml hv
  obtain ⟨rfl, hsz, hP, hkn, hD0, hst⟩ := hv
  have hx := B.exec
  have hb := B.bytes
  have hr := B.returns
  have hts := atoms_spec (ws := wsX11_place) B.pre
  have hown : s.vm.findClass RX11 = some m.cls := findClass_of_methodNamed B.named
  have hlocks := B.notSynchronized
  subst hsz
  have hD := hD0.self (sz := s.heap.size)
  have hK := hkn.1
  have hAO := hkn.2.2.1
  generalize hAe : va_A [(h0, .inr (11, [.ref tp, .ref rd, .ref se, .ref ba, .ref of, .ref pl, .ref sr, .ref sc, .int wk])), (ba, .inl (E.2.1 4, 6, .inr (.inr (.inr (.inr fb))))), (bo_, .inr (0, [.ref sp, .ref pa, .int lt, .ref ru, .ref co, .ref tr])), (tr, .inr (4, [.ref wy, .int wl_, .int (nI ps), .int sta, .int hp, .int fd, .int pe, .int at_, .int go, .int tu, .int wa, .int ce, .int wt, .int un, .int fu, .int dr])), (wy, .inl (E.2.1 0, 8, .inl fy))] s.heap.size = A at hD hst ⊢
  have hA : ∀ q : Nat, s.heap.size ≤ q → A q := fun q h => by rw [← hAe]; exact Or.inr h
  have hS : va_S A s.heap s.heap [] := va_S.rf
  have hP : va_P E.1 vwCl [(h0, .inr (11, [.ref tp, .ref rd, .ref se, .ref ba, .ref of, .ref pl, .ref sr, .ref sc, .int wk])), (ba, .inl (E.2.1 4, 6, .inr (.inr (.inr (.inr fb))))), (bo_, .inr (0, [.ref sp, .ref pa, .int lt, .ref ru, .ref co, .ref tr])), (tr, .inr (4, [.ref wy, .int wl_, .int (nI ps), .int sta, .int hp, .int fd, .int pe, .int at_, .int go, .int tu, .int wa, .int ce, .int wt, .int un, .int fu, .int dr])), (wy, .inl (E.2.1 0, 8, .inl fy))] s.heap := hP
  have hl := lv_entry ([.ref h0, .int b, .int place]) (n := 4) (Nat.le_of_ble_eq_true rfl)
  rw [lg_entry_eq]
  generalize (lg_sl ([.ref h0, .int b, .int place]) ++ List.replicate (4 - (lg_sl ([.ref h0, .int b, .int place])).length) Slot.unset).toArray = ls at hl ⊢
  have hl : lv_has ls 4 [(0, .ref h0), (1, .int b), (2, .int place)] := hl
  have fl34 := hts (.fieldLink RX11 34 "BoatsHome" "boats" "[LBoatsHome$Boat;") (by first | exact List.mem_of_getElem? (i := 1) rfl | decide +kernel)
  have fl144 := hts (.fieldLink RX11 144 "BoatsHome$Boat" "trip" "LBoatsHome$Passage;") (by first | exact List.mem_of_getElem? (i := 2) rfl | decide +kernel)
  have fl148 := hts (.fieldLink RX11 148 "BoatsHome$Passage" "state" "I") (by first | exact List.mem_of_getElem? (i := 3) rfl | decide +kernel)
  have fl157 := hts (.fieldLink RX11 157 "BoatsHome$Passage" "watches" "I") (by first | exact List.mem_of_getElem? (i := 4) rfl | decide +kernel)
  have inX0 : ∀ w ∈ u_ws RX0 TX0 6, w ∈ wsX11_place := by first | exact fun w h9 => (List.mem_cons_of_mem _ (List.mem_append_left _ (List.mem_append_right _ h9))) | decide +kernel
  have inX11 : ∀ w ∈ u_ws RX11 TX11 9, w ∈ wsX11_place := by first | exact fun w h9 => (List.mem_cons_of_mem _ (List.mem_append_left _ (List.mem_append_left _ (List.mem_append_right _ h9)))) | decide +kernel
  have inX4 : ∀ w ∈ u_ws RX4 TX4 16, w ∈ wsX11_place := by first | exact fun w h9 => (List.mem_cons_of_mem _ (List.mem_append_right _ h9)) | decide +kernel
  refine lv_iload_n hx hb dX11_place_0 rfl (lv_at hl 1 rfl) ?_
  refine lv_bipush (v := 6) hx hb dX11_place_1 (by decide) ?_
  have hPc := hP.sub (ws' := []) [] rfl
  have hDc := hD.sub (ws' := []) [] (by decide) rfl
  have hFc := va_free (wc := []) hD hS hA [] rfl
  refine va_calli (va_runS (As := [.int b, .int 6]) (rest := []) ⟨hx, hb, hml, hown, hts⟩ (c_X11_below l E b 6 5 s.heap.size (lt_le (by decide))) (va_cwS 2 hts gX11_place_X11_below rfl rfl rfl hdS_X11_below ⟨Nat.le_of_ble_eq_true rfl, Nat.le_of_ble_eq_true rfl⟩) ⟨pcW_blind, (pcW_pre hPc hkn hDc hst hS hFc)⟩ rfl rfl hl.1 rfl (lv_room (Nat.le_of_ble_eq_true rfl)) dX11_place_3 ⟨Nat.le_of_ble_eq_true rfl, Nat.le_of_ble_eq_true rfl⟩) hS (fun q _ h => hFc q h) hFc (fun r_1 u t H1 locs ht hvm hw_2 hB hz1 hk1 hS => ?_)
  obtain ⟨hP1, hD1⟩ := hB
  rw [ht] at hP1
  try dsimp only at hw_2
  obtain ⟨hP, hD⟩ := va_join (wr := [(h0, .inr (11, [.ref tp, .ref rd, .ref se, .ref ba, .ref of, .ref pl, .ref sr, .ref sc, .int wk])), (ba, .inl (E.2.1 4, 6, .inr (.inr (.inr (.inr fb))))), (bo_, .inr (0, [.ref sp, .ref pa, .int lt, .ref ru, .ref co, .ref tr])), (tr, .inr (4, [.ref wy, .int wl_, .int (nI ps), .int sta, .int hp, .int fd, .int pe, .int at_, .int go, .int tu, .int wa, .int ce, .int wt, .int un, .int fu, .int dr])), (wy, .inl (E.2.1 0, 8, .inl fy))]) (w1 := []) hP hD [] [0, 1, 2, 3, 4] rfl rfl (by decide) (by decide) hk1 hFc hP1 hD1
  generalize H1 = H at hP hS ⊢
  have hP : va_P E.1 vwCl [(h0, .inr (11, [.ref tp, .ref rd, .ref se, .ref ba, .ref of, .ref pl, .ref sr, .ref sc, .int wk])), (ba, .inl (E.2.1 4, 6, .inr (.inr (.inr (.inr fb))))), (bo_, .inr (0, [.ref sp, .ref pa, .int lt, .ref ru, .ref co, .ref tr])), (tr, .inr (4, [.ref wy, .int wl_, .int (nI ps), .int sta, .int hp, .int fd, .int pe, .int at_, .int go, .int tu, .int wa, .int ce, .int wt, .int un, .int fu, .int dr])), (wy, .inl (E.2.1 0, 8, .inl fy))] H := hP
  have hD : va_D A [(h0, .inr (11, [.ref tp, .ref rd, .ref se, .ref ba, .ref of, .ref pl, .ref sr, .ref sc, .int wk])), (ba, .inl (E.2.1 4, 6, .inr (.inr (.inr (.inr fb))))), (bo_, .inr (0, [.ref sp, .ref pa, .int lt, .ref ru, .ref co, .ref tr])), (tr, .inr (4, [.ref wy, .int wl_, .int (nI ps), .int sta, .int hp, .int fd, .int pe, .int at_, .int go, .int tu, .int wa, .int ce, .int wt, .int un, .int fu, .int dr])), (wy, .inl (E.2.1 0, 8, .inl fy))] := hD
  refine lv_if_eq (tgt := 16) hx hb dX11_place_6 (by decide) (fun c_3 => ?_) (fun c_3 => ?_)
  · have b_4 : inR b 0 5 = false := bz hw_2 c_3
    refine lv_bipush (v := (-2)) hx hb dX11_place_16 (by decide) ?_
    have hP9 := hP.sub (ws' := [(h0, .inr (11, [.ref tp, .ref rd, .ref se, .ref ba, .ref of, .ref pl, .ref sr, .ref sc, .int wk])), (ba, .inl (E.2.1 4, 6, .inr (.inr (.inr (.inr fb))))), (bo_, .inr (0, [.ref sp, .ref pa, .int lt, .ref ru, .ref co, .ref tr])), (tr, .inr (4, [.ref wy, .int wl_, .int (nI ps), .int sta, .int hp, .int fd, .int pe, .int at_, .int go, .int tu, .int wa, .int ce, .int wt, .int un, .int fu, .int dr])), (wy, .inl (E.2.1 0, 8, .inl fy))]) [0, 1, 2, 3, 4] rfl
    have hD9 := hD.sub (ws' := [(h0, .inr (11, [.ref tp, .ref rd, .ref se, .ref ba, .ref of, .ref pl, .ref sr, .ref sc, .int wk])), (ba, .inl (E.2.1 4, 6, .inr (.inr (.inr (.inr fb))))), (bo_, .inr (0, [.ref sp, .ref pa, .int lt, .ref ru, .ref co, .ref tr])), (tr, .inr (4, [.ref wy, .int wl_, .int (nI ps), .int sta, .int hp, .int fd, .int pe, .int at_, .int go, .int tu, .int wa, .int ce, .int wt, .int un, .int fu, .int dr])), (wy, .inl (E.2.1 0, 8, .inl fy))]) [0, 1, 2, 3, 4] (by decide) rfl
    exact W.iret (v := (-2)) hx hb hr (fun t ht hW => ⟨⟨(-2), (wl_, fy), rfl, trivial, by rw [ht]; exact hP9, hD9⟩, hS.F ht⟩) hS.2.2 dX11_place_18
  · have b_5 : inR b 0 5 = true := bn hw_2 c_3
    refine lv_iload_n hx hb dX11_place_9 rfl (lv_at hl 2 rfl) ?_
    have hPc := hP.sub (ws' := []) [] rfl
    have hDc := hD.sub (ws' := []) [] (by decide) rfl
    have hFc := va_free (wc := []) hD hS hA [] rfl
    refine va_calli (va_runS (As := [.int place]) (rest := []) ⟨hx, hb, hml, hown, hts⟩ (c_X11_isPlace l E place H.size ) (va_cwS 1 hts gX11_place_X11_isPlace rfl rfl rfl hdS_X11_isPlace ⟨Nat.le_of_ble_eq_true rfl, Nat.le_of_ble_eq_true rfl⟩) ⟨pcW_blind, (pcW_pre hPc hkn hDc hst hS hFc)⟩ rfl rfl hl.1 rfl (lv_room (Nat.le_of_ble_eq_true rfl)) dX11_place_10 ⟨Nat.le_of_ble_eq_true rfl, Nat.le_of_ble_eq_true rfl⟩) hS (fun q _ h => hFc q h) hFc (fun r_6 u t H1 locs ht hvm hw_7 hB hz1 hk1 hS => ?_)
    obtain ⟨hP1, hD1⟩ := hB
    rw [ht] at hP1
    try dsimp only at hw_7
    obtain ⟨hP, hD⟩ := va_join (wr := [(h0, .inr (11, [.ref tp, .ref rd, .ref se, .ref ba, .ref of, .ref pl, .ref sr, .ref sc, .int wk])), (ba, .inl (E.2.1 4, 6, .inr (.inr (.inr (.inr fb))))), (bo_, .inr (0, [.ref sp, .ref pa, .int lt, .ref ru, .ref co, .ref tr])), (tr, .inr (4, [.ref wy, .int wl_, .int (nI ps), .int sta, .int hp, .int fd, .int pe, .int at_, .int go, .int tu, .int wa, .int ce, .int wt, .int un, .int fu, .int dr])), (wy, .inl (E.2.1 0, 8, .inl fy))]) (w1 := []) hP hD [] [0, 1, 2, 3, 4] rfl rfl (by decide) (by decide) hk1 hFc hP1 hD1
    generalize H1 = H at hP hS ⊢
    have hP : va_P E.1 vwCl [(h0, .inr (11, [.ref tp, .ref rd, .ref se, .ref ba, .ref of, .ref pl, .ref sr, .ref sc, .int wk])), (ba, .inl (E.2.1 4, 6, .inr (.inr (.inr (.inr fb))))), (bo_, .inr (0, [.ref sp, .ref pa, .int lt, .ref ru, .ref co, .ref tr])), (tr, .inr (4, [.ref wy, .int wl_, .int (nI ps), .int sta, .int hp, .int fd, .int pe, .int at_, .int go, .int tu, .int wa, .int ce, .int wt, .int un, .int fu, .int dr])), (wy, .inl (E.2.1 0, 8, .inl fy))] H := hP
    have hD : va_D A [(h0, .inr (11, [.ref tp, .ref rd, .ref se, .ref ba, .ref of, .ref pl, .ref sr, .ref sc, .int wk])), (ba, .inl (E.2.1 4, 6, .inr (.inr (.inr (.inr fb))))), (bo_, .inr (0, [.ref sp, .ref pa, .int lt, .ref ru, .ref co, .ref tr])), (tr, .inr (4, [.ref wy, .int wl_, .int (nI ps), .int sta, .int hp, .int fd, .int pe, .int at_, .int go, .int tu, .int wa, .int ce, .int wt, .int un, .int fu, .int dr])), (wy, .inl (E.2.1 0, 8, .inl fy))] := hD
    refine lv_if_ne (tgt := 19) hx hb dX11_place_13 (by decide) (fun c_8 => ?_) (fun c_8 => ?_)
    · have b_9 : isPl place = true := bn hw_7 c_8
      refine lv_aload_n hx hb dX11_place_19 rfl (lv_at hl 0 rfl) ?_
      refine va_get (D := E.1) (ci := 11) (v := .ref ba) (C := RX11) (T := TX11) (N := 9) hx hb hts inX11 hown hK hP 0 rfl rfl 3 (by decide) fl34 (fun _ h9 => h9) rfl dX11_place_20 ?_
      refine lv_iload_n hx hb dX11_place_23 rfl (lv_at hl 1 rfl) ?_
      have hi_10 : vp_in b 6 := inR_in (by decide) b_5
      refine va_aldq hx hb hK hP 1 4 rfl rfl hi_10 dX11_place_24 ?_
      rw [show va_rf (fb b.toNatClampNeg) = .ref bo_ from by rw [hfb b_5]; rfl]
      refine va_get (D := E.1) (ci := 0) (v := .ref tr) (C := RX0) (T := TX0) (N := 6) hx hb hts inX0 hown hK hP 2 rfl rfl 5 (by decide) fl144 (fun _ h9 => h9) rfl dX11_place_25 ?_
      refine lv_astore_n (lv' := [(3, .ref tr), (0, .ref h0), (1, .int b), (2, .int place)]) hx hb dX11_place_28 rfl hl (by decide) rfl (fun ls hl => ?_)
      refine lv_aload_n hx hb dX11_place_29 rfl (lv_at hl 0 rfl) ?_
      refine va_get (D := E.1) (ci := 4) (v := .int sta) (C := RX4) (T := TX4) (N := 16) hx hb hts inX4 hown hK hP 3 rfl rfl 3 (by decide) fl148 (fun _ h9 => h9) rfl dX11_place_30 ?_
      refine lv_if_ne (tgt := 43) hx hb dX11_place_33 (by decide) (fun c_11 => ?_) (fun c_11 => ?_)
      · refine lv_bipush (v := (-4)) hx hb dX11_place_43 (by decide) ?_
        have hP9 := hP.sub (ws' := [(h0, .inr (11, [.ref tp, .ref rd, .ref se, .ref ba, .ref of, .ref pl, .ref sr, .ref sc, .int wk])), (ba, .inl (E.2.1 4, 6, .inr (.inr (.inr (.inr fb))))), (bo_, .inr (0, [.ref sp, .ref pa, .int lt, .ref ru, .ref co, .ref tr])), (tr, .inr (4, [.ref wy, .int wl_, .int (nI ps), .int sta, .int hp, .int fd, .int pe, .int at_, .int go, .int tu, .int wa, .int ce, .int wt, .int un, .int fu, .int dr])), (wy, .inl (E.2.1 0, 8, .inl fy))]) [0, 1, 2, 3, 4] rfl
        have hD9 := hD.sub (ws' := [(h0, .inr (11, [.ref tp, .ref rd, .ref se, .ref ba, .ref of, .ref pl, .ref sr, .ref sc, .int wk])), (ba, .inl (E.2.1 4, 6, .inr (.inr (.inr (.inr fb))))), (bo_, .inr (0, [.ref sp, .ref pa, .int lt, .ref ru, .ref co, .ref tr])), (tr, .inr (4, [.ref wy, .int wl_, .int (nI ps), .int sta, .int hp, .int fd, .int pe, .int at_, .int go, .int tu, .int wa, .int ce, .int wt, .int un, .int fu, .int dr])), (wy, .inl (E.2.1 0, 8, .inl fy))]) [0, 1, 2, 3, 4] (by decide) rfl
        exact W.iret (v := (-4)) hx hb hr (fun t ht hW => ⟨⟨(-4), (wl_, fy), rfl, trivial, by rw [ht]; exact hP9, hD9⟩, hS.F ht⟩) hS.2.2 dX11_place_45
      · refine lv_aload_n hx hb dX11_place_36 rfl (lv_at hl 0 rfl) ?_
        refine va_get (D := E.1) (ci := 4) (v := .int wa) (C := RX4) (T := TX4) (N := 16) hx hb hts inX4 hown hK hP 3 rfl rfl 10 (by decide) fl157 (fun _ h9 => h9) rfl dX11_place_37 ?_
        refine lv_if_le (tgt := 46) hx hb dX11_place_40 (by decide) (fun c_12 => ?_) (fun c_12 => ?_)
        · refine lv_aload_n hx hb dX11_place_46 rfl (lv_at hl 0 rfl) ?_
          refine lv_iload_n hx hb dX11_place_47 rfl (lv_at hl 3 rfl) ?_
          have hPc := hP.sub (ws' := [(tr, .inr (4, [.ref wy, .int wl_, .int (nI ps), .int sta, .int hp, .int fd, .int pe, .int at_, .int go, .int tu, .int wa, .int ce, .int wt, .int un, .int fu, .int dr])), (wy, .inl (E.2.1 0, 8, .inl fy))]) [3, 4] rfl
          have hDc := hD.sub (ws' := [(tr, .inr (4, [.ref wy, .int wl_, .int (nI ps), .int sta, .int hp, .int fd, .int pe, .int at_, .int go, .int tu, .int wa, .int ce, .int wt, .int un, .int fu, .int dr])), (wy, .inl (E.2.1 0, 8, .inl fy))]) [3, 4] (by decide) rfl
          have hFc := va_free (wc := [(tr, .inr (4, [.ref wy, .int wl_, .int (nI ps), .int sta, .int hp, .int fd, .int pe, .int at_, .int go, .int tu, .int wa, .int ce, .int wt, .int un, .int fu, .int dr])), (wy, .inl (E.2.1 0, 8, .inl fy))]) hD hS hA [3, 4] rfl
          refine va_calli (va_runV (As := [.int place]) (rest := []) ⟨hx, hb, hml, hown, hts⟩ (c_X4_addPlace l E tr wy ps wl_ sta hp fd pe at_ go tu wa ce wt un fu dr fy place H.size ) (cwV 1 hts gX11_place_X4_addPlace rfl rfl rfl hdV_X4_addPlace ⟨Nat.le_of_ble_eq_true rfl, Nat.le_of_ble_eq_true rfl⟩) ⟨pcW_blind, va_recv hK hPc (ci := 4) (q0 := 0) rfl rfl, (pcW_pre hPc hkn hDc hst hS hFc)⟩ rfl rfl hl.1 rfl (lv_room (Nat.le_of_ble_eq_true rfl)) dX11_place_48 ⟨Nat.le_of_ble_eq_true rfl, Nat.le_of_ble_eq_true rfl⟩) hS (fun q _ h => hFc q h) hFc (fun r_13 u t H1 locs ht hvm hw_14 hB hz1 hk1 hS => ?_)
          obtain ⟨u_15, u_16⟩ := u
          obtain ⟨hP1, hD1⟩ := hB
          rw [ht] at hP1
          try dsimp only at hw_14
          obtain ⟨hP, hD⟩ := va_join (wr := [(h0, .inr (11, [.ref tp, .ref rd, .ref se, .ref ba, .ref of, .ref pl, .ref sr, .ref sc, .int wk])), (ba, .inl (E.2.1 4, 6, .inr (.inr (.inr (.inr fb))))), (bo_, .inr (0, [.ref sp, .ref pa, .int lt, .ref ru, .ref co, .ref tr]))]) (w1 := [(tr, .inr (4, [.ref wy, .int u_15, .int (nI ps), .int sta, .int hp, .int fd, .int pe, .int at_, .int go, .int tu, .int wa, .int ce, .int wt, .int un, .int fu, .int dr])), (wy, .inl (E.2.1 0, 8, .inl u_16))]) hP hD [3, 4] [0, 1, 2] rfl rfl (by decide) (by decide) hk1 hFc hP1 hD1
          generalize H1 = H at hP hS ⊢
          have hP : va_P E.1 vwCl [(h0, .inr (11, [.ref tp, .ref rd, .ref se, .ref ba, .ref of, .ref pl, .ref sr, .ref sc, .int wk])), (ba, .inl (E.2.1 4, 6, .inr (.inr (.inr (.inr fb))))), (bo_, .inr (0, [.ref sp, .ref pa, .int lt, .ref ru, .ref co, .ref tr])), (tr, .inr (4, [.ref wy, .int u_15, .int (nI ps), .int sta, .int hp, .int fd, .int pe, .int at_, .int go, .int tu, .int wa, .int ce, .int wt, .int un, .int fu, .int dr])), (wy, .inl (E.2.1 0, 8, .inl u_16))] H := hP
          have hD : va_D A [(h0, .inr (11, [.ref tp, .ref rd, .ref se, .ref ba, .ref of, .ref pl, .ref sr, .ref sc, .int wk])), (ba, .inl (E.2.1 4, 6, .inr (.inr (.inr (.inr fb))))), (bo_, .inr (0, [.ref sp, .ref pa, .int lt, .ref ru, .ref co, .ref tr])), (tr, .inr (4, [.ref wy, .int u_15, .int (nI ps), .int sta, .int hp, .int fd, .int pe, .int at_, .int go, .int tu, .int wa, .int ce, .int wt, .int un, .int fu, .int dr])), (wy, .inl (E.2.1 0, 8, .inl u_16))] := hD
          refine lv_if_eq (tgt := 61) hx hb dX11_place_51 (by decide) (fun c_17 => ?_) (fun c_17 => ?_)
          · refine lv_bipush (v := (-3)) hx hb dX11_place_61 (by decide) ?_
            have hP9 := hP.sub (ws' := [(h0, .inr (11, [.ref tp, .ref rd, .ref se, .ref ba, .ref of, .ref pl, .ref sr, .ref sc, .int wk])), (ba, .inl (E.2.1 4, 6, .inr (.inr (.inr (.inr fb))))), (bo_, .inr (0, [.ref sp, .ref pa, .int lt, .ref ru, .ref co, .ref tr])), (tr, .inr (4, [.ref wy, .int u_15, .int (nI ps), .int sta, .int hp, .int fd, .int pe, .int at_, .int go, .int tu, .int wa, .int ce, .int wt, .int un, .int fu, .int dr])), (wy, .inl (E.2.1 0, 8, .inl u_16))]) [0, 1, 2, 3, 4] rfl
            have hD9 := hD.sub (ws' := [(h0, .inr (11, [.ref tp, .ref rd, .ref se, .ref ba, .ref of, .ref pl, .ref sr, .ref sc, .int wk])), (ba, .inl (E.2.1 4, 6, .inr (.inr (.inr (.inr fb))))), (bo_, .inr (0, [.ref sp, .ref pa, .int lt, .ref ru, .ref co, .ref tr])), (tr, .inr (4, [.ref wy, .int u_15, .int (nI ps), .int sta, .int hp, .int fd, .int pe, .int at_, .int go, .int tu, .int wa, .int ce, .int wt, .int un, .int fu, .int dr])), (wy, .inl (E.2.1 0, 8, .inl u_16))]) [0, 1, 2, 3, 4] (by decide) rfl
            exact W.iret (v := (-3)) hx hb hr (fun t ht hW => ⟨⟨(-3), (u_15, u_16), rfl, trivial, by rw [ht]; exact hP9, hD9⟩, hS.F ht⟩) hS.2.2 dX11_place_63
          · refine lv_aload_n hx hb dX11_place_54 rfl (lv_at hl 0 rfl) ?_
            have hPc := hP.sub (ws' := [(tr, .inr (4, [.ref wy, .int u_15, .int (nI ps), .int sta, .int hp, .int fd, .int pe, .int at_, .int go, .int tu, .int wa, .int ce, .int wt, .int un, .int fu, .int dr]))]) [3] rfl
            have hDc := hD.sub (ws' := [(tr, .inr (4, [.ref wy, .int u_15, .int (nI ps), .int sta, .int hp, .int fd, .int pe, .int at_, .int go, .int tu, .int wa, .int ce, .int wt, .int un, .int fu, .int dr]))]) [3] (by decide) rfl
            have hFc := va_free (wc := [(tr, .inr (4, [.ref wy, .int u_15, .int (nI ps), .int sta, .int hp, .int fd, .int pe, .int at_, .int go, .int tu, .int wa, .int ce, .int wt, .int un, .int fu, .int dr]))]) hD hS hA [3] rfl
            refine va_calli (va_runV (As := []) (rest := []) ⟨hx, hb, hml, hown, hts⟩ (c_X4_placesLeft l E tr wy ps u_15 sta hp fd pe at_ go tu wa ce wt un fu dr u_16 H.size ) (cwV 0 hts gX11_place_X4_placesLeft rfl rfl rfl hdV_X4_placesLeft ⟨Nat.le_of_ble_eq_true rfl, Nat.le_of_ble_eq_true rfl⟩) ⟨pcW_blind, va_recv hK hPc (ci := 4) (q0 := 0) rfl rfl, (pcW_pre hPc hkn hDc hst hS hFc)⟩ rfl rfl hl.1 rfl (lv_room (Nat.le_of_ble_eq_true rfl)) dX11_place_55 ⟨Nat.le_of_ble_eq_true rfl, Nat.le_of_ble_eq_true rfl⟩) hS (fun q _ h => hFc q h) hFc (fun r_18 u t H1 locs ht hvm hw_19 hB hz1 hk1 hS => ?_)
            obtain ⟨hP1, hD1⟩ := hB
            rw [ht] at hP1
            try dsimp only at hw_19
            obtain ⟨hP, hD⟩ := va_join (wr := [(h0, .inr (11, [.ref tp, .ref rd, .ref se, .ref ba, .ref of, .ref pl, .ref sr, .ref sc, .int wk])), (ba, .inl (E.2.1 4, 6, .inr (.inr (.inr (.inr fb))))), (bo_, .inr (0, [.ref sp, .ref pa, .int lt, .ref ru, .ref co, .ref tr])), (wy, .inl (E.2.1 0, 8, .inl u_16))]) (w1 := [(tr, .inr (4, [.ref wy, .int u_15, .int (nI ps), .int sta, .int hp, .int fd, .int pe, .int at_, .int go, .int tu, .int wa, .int ce, .int wt, .int un, .int fu, .int dr]))]) hP hD [3] [0, 1, 2, 4] rfl rfl (by decide) (by decide) hk1 hFc hP1 hD1
            generalize H1 = H at hP hS ⊢
            have hP : va_P E.1 vwCl [(h0, .inr (11, [.ref tp, .ref rd, .ref se, .ref ba, .ref of, .ref pl, .ref sr, .ref sc, .int wk])), (ba, .inl (E.2.1 4, 6, .inr (.inr (.inr (.inr fb))))), (bo_, .inr (0, [.ref sp, .ref pa, .int lt, .ref ru, .ref co, .ref tr])), (wy, .inl (E.2.1 0, 8, .inl u_16)), (tr, .inr (4, [.ref wy, .int u_15, .int (nI ps), .int sta, .int hp, .int fd, .int pe, .int at_, .int go, .int tu, .int wa, .int ce, .int wt, .int un, .int fu, .int dr]))] H := hP
            have hD : va_D A [(h0, .inr (11, [.ref tp, .ref rd, .ref se, .ref ba, .ref of, .ref pl, .ref sr, .ref sc, .int wk])), (ba, .inl (E.2.1 4, 6, .inr (.inr (.inr (.inr fb))))), (bo_, .inr (0, [.ref sp, .ref pa, .int lt, .ref ru, .ref co, .ref tr])), (wy, .inl (E.2.1 0, 8, .inl u_16)), (tr, .inr (4, [.ref wy, .int u_15, .int (nI ps), .int sta, .int hp, .int fd, .int pe, .int at_, .int go, .int tu, .int wa, .int ce, .int wt, .int un, .int fu, .int dr]))] := hD
            refine lv_goto (tgt := 63) hx hb dX11_place_58 (by decide) ?_
            have hP9 := hP.sub (ws' := [(h0, .inr (11, [.ref tp, .ref rd, .ref se, .ref ba, .ref of, .ref pl, .ref sr, .ref sc, .int wk])), (ba, .inl (E.2.1 4, 6, .inr (.inr (.inr (.inr fb))))), (bo_, .inr (0, [.ref sp, .ref pa, .int lt, .ref ru, .ref co, .ref tr])), (tr, .inr (4, [.ref wy, .int u_15, .int (nI ps), .int sta, .int hp, .int fd, .int pe, .int at_, .int go, .int tu, .int wa, .int ce, .int wt, .int un, .int fu, .int dr])), (wy, .inl (E.2.1 0, 8, .inl u_16))]) [0, 1, 2, 4, 3] rfl
            have hD9 := hD.sub (ws' := [(h0, .inr (11, [.ref tp, .ref rd, .ref se, .ref ba, .ref of, .ref pl, .ref sr, .ref sc, .int wk])), (ba, .inl (E.2.1 4, 6, .inr (.inr (.inr (.inr fb))))), (bo_, .inr (0, [.ref sp, .ref pa, .int lt, .ref ru, .ref co, .ref tr])), (tr, .inr (4, [.ref wy, .int u_15, .int (nI ps), .int sta, .int hp, .int fd, .int pe, .int at_, .int go, .int tu, .int wa, .int ce, .int wt, .int un, .int fu, .int dr])), (wy, .inl (E.2.1 0, 8, .inl u_16))]) [0, 1, 2, 4, 3] (by decide) rfl
            exact W.iret (v := r_18) hx hb hr (fun t ht hW => ⟨⟨r_18, (u_15, u_16), rfl, trivial, by rw [ht]; exact hP9, hD9⟩, hS.F ht⟩) hS.2.2 dX11_place_63
        · refine lv_bipush (v := (-4)) hx hb dX11_place_43 (by decide) ?_
          have hP9 := hP.sub (ws' := [(h0, .inr (11, [.ref tp, .ref rd, .ref se, .ref ba, .ref of, .ref pl, .ref sr, .ref sc, .int wk])), (ba, .inl (E.2.1 4, 6, .inr (.inr (.inr (.inr fb))))), (bo_, .inr (0, [.ref sp, .ref pa, .int lt, .ref ru, .ref co, .ref tr])), (tr, .inr (4, [.ref wy, .int wl_, .int (nI ps), .int sta, .int hp, .int fd, .int pe, .int at_, .int go, .int tu, .int wa, .int ce, .int wt, .int un, .int fu, .int dr])), (wy, .inl (E.2.1 0, 8, .inl fy))]) [0, 1, 2, 3, 4] rfl
          have hD9 := hD.sub (ws' := [(h0, .inr (11, [.ref tp, .ref rd, .ref se, .ref ba, .ref of, .ref pl, .ref sr, .ref sc, .int wk])), (ba, .inl (E.2.1 4, 6, .inr (.inr (.inr (.inr fb))))), (bo_, .inr (0, [.ref sp, .ref pa, .int lt, .ref ru, .ref co, .ref tr])), (tr, .inr (4, [.ref wy, .int wl_, .int (nI ps), .int sta, .int hp, .int fd, .int pe, .int at_, .int go, .int tu, .int wa, .int ce, .int wt, .int un, .int fu, .int dr])), (wy, .inl (E.2.1 0, 8, .inl fy))]) [0, 1, 2, 3, 4] (by decide) rfl
          exact W.iret (v := (-4)) hx hb hr (fun t ht hW => ⟨⟨(-4), (wl_, fy), rfl, trivial, by rw [ht]; exact hP9, hD9⟩, hS.F ht⟩) hS.2.2 dX11_place_45
    · have b_20 : isPl place = false := bz hw_7 c_8
      refine lv_bipush (v := (-2)) hx hb dX11_place_16 (by decide) ?_
      have hP9 := hP.sub (ws' := [(h0, .inr (11, [.ref tp, .ref rd, .ref se, .ref ba, .ref of, .ref pl, .ref sr, .ref sc, .int wk])), (ba, .inl (E.2.1 4, 6, .inr (.inr (.inr (.inr fb))))), (bo_, .inr (0, [.ref sp, .ref pa, .int lt, .ref ru, .ref co, .ref tr])), (tr, .inr (4, [.ref wy, .int wl_, .int (nI ps), .int sta, .int hp, .int fd, .int pe, .int at_, .int go, .int tu, .int wa, .int ce, .int wt, .int un, .int fu, .int dr])), (wy, .inl (E.2.1 0, 8, .inl fy))]) [0, 1, 2, 3, 4] rfl
      have hD9 := hD.sub (ws' := [(h0, .inr (11, [.ref tp, .ref rd, .ref se, .ref ba, .ref of, .ref pl, .ref sr, .ref sc, .int wk])), (ba, .inl (E.2.1 4, 6, .inr (.inr (.inr (.inr fb))))), (bo_, .inr (0, [.ref sp, .ref pa, .int lt, .ref ru, .ref co, .ref tr])), (tr, .inr (4, [.ref wy, .int wl_, .int (nI ps), .int sta, .int hp, .int fd, .int pe, .int at_, .int go, .int tu, .int wa, .int ce, .int wt, .int un, .int fu, .int dr])), (wy, .inl (E.2.1 0, 8, .inl fy))]) [0, 1, 2, 3, 4] (by decide) rfl
      exact W.iret (v := (-2)) hx hb hr (fun t ht hW => ⟨⟨(-2), (wl_, fy), rfl, trivial, by rw [ht]; exact hP9, hD9⟩, hS.F ht⟩) hS.2.2 dX11_place_18
set_option maxHeartbeats 4000000 in
set_option maxRecDepth 100000 in
theorem c_X11_passage (l : Launch) (E : vE) (h0 : Nat) (tp : Nat) (rd : Nat) (se : Nat) (ba : Nat) (of : Nat) (pl : Nat) (sr : Nat) (sc : Nat) (wk : Int32) (bo_ : Nat) (sp : Nat) (pa : Nat) (ru : Nat) (co : Nat) (tr : Nat) (lt : Int32) (fb : Nat → Option Nat) (wy : Nat) (ps : Nat) (wl_ : Int32) (sta : Int32) (hp : Int32) (fd : Int32) (pe : Int32) (at_ : Int32) (go : Int32) (tu : Int32) (wa : Int32) (ce : Int32) (wt : Int32) (un : Int32) (fu : Int32) (dr : Int32) (fy : Nat → Int32) (b : Int32) (what : Int32) (sz : Nat) (hfb : inR b 0 5 = true → fb b.toNatClampNeg = some bo_) : Met l yX11_passage wsX11_passage ({ frames := 2, cells := 0, slots := 0, locals := 41 }) (pcW E [.ref h0, .int b, .int what] sz [(h0, .inr (11, [.ref tp, .ref rd, .ref se, .ref ba, .ref of, .ref pl, .ref sr, .ref sc, .int wk])), (ba, .inl (E.2.1 4, 6, .inr (.inr (.inr (.inr fb))))), (bo_, .inr (0, [.ref sp, .ref pa, .int lt, .ref ru, .ref co, .ref tr])), (tr, .inr (4, [.ref wy, .int wl_, .int (nI ps), .int sta, .int hp, .int fd, .int pe, .int at_, .int go, .int tu, .int wa, .int ce, .int wt, .int un, .int fu, .int dr]))]) (va_Qi (fun (r : Int32) (_ : Unit) => True) (fun (_ : Unit) (t : State) => wB E (va_A [(h0, .inr (11, [.ref tp, .ref rd, .ref se, .ref ba, .ref of, .ref pl, .ref sr, .ref sc, .int wk])), (ba, .inl (E.2.1 4, 6, .inr (.inr (.inr (.inr fb))))), (bo_, .inr (0, [.ref sp, .ref pa, .int lt, .ref ru, .ref co, .ref tr])), (tr, .inr (4, [.ref wy, .int wl_, .int (nI ps), .int sta, .int hp, .int fd, .int pe, .int at_, .int go, .int tu, .int wa, .int ce, .int wt, .int un, .int fu, .int dr]))] sz) [(h0, .inr (11, [.ref tp, .ref rd, .ref se, .ref ba, .ref of, .ref pl, .ref sr, .ref sc, .int wk])), (ba, .inl (E.2.1 4, 6, .inr (.inr (.inr (.inr fb))))), (bo_, .inr (0, [.ref sp, .ref pa, .int lt, .ref ru, .ref co, .ref tr])), (tr, .inr (4, [.ref wy, .int wl_, .int (nI ps), .int sta, .int hp, .int fd, .int pe, .int at_, .int go, .int tu, .int wa, .int ce, .int wt, .int un, .int fu, .int dr]))] t) (va_A [(h0, .inr (11, [.ref tp, .ref rd, .ref se, .ref ba, .ref of, .ref pl, .ref sr, .ref sc, .int wk])), (ba, .inl (E.2.1 4, 6, .inr (.inr (.inr (.inr fb))))), (bo_, .inr (0, [.ref sp, .ref pa, .int lt, .ref ru, .ref co, .ref tr])), (tr, .inr (4, [.ref wy, .int wl_, .int (nI ps), .int sta, .int hp, .int fd, .int pe, .int at_, .int go, .int tu, .int wa, .int ce, .int wt, .int un, .int fu, .int dr]))] sz)) 0 0 (va_A [(h0, .inr (11, [.ref tp, .ref rd, .ref se, .ref ba, .ref of, .ref pl, .ref sr, .ref sc, .int wk])), (ba, .inl (E.2.1 4, 6, .inr (.inr (.inr (.inr fb))))), (bo_, .inr (0, [.ref sp, .ref pa, .int lt, .ref ru, .ref co, .ref tr])), (tr, .inr (4, [.ref wy, .int wl_, .int (nI ps), .int sta, .int hp, .int fd, .int pe, .int at_, .int go, .int tu, .int wa, .int ce, .int wt, .int un, .int fu, .int dr]))] sz) := by
  refine Met.ofW (cc := cX11_passage) (maxL := 3) (ret := (some .int)) (by decide) rfl ?_
  intro p e s m args below meth c s₁ B hml hv
  obtain ⟨rfl, hsz, hP, hkn, hD0, hst⟩ := hv
  have hx := B.exec
  have hb := B.bytes
  have hr := B.returns
  have hts := atoms_spec (ws := wsX11_passage) B.pre
  have hown : s.vm.findClass RX11 = some m.cls := findClass_of_methodNamed B.named
  have hlocks := B.notSynchronized
  subst hsz
  have hD := hD0.self (sz := s.heap.size)
  have hK := hkn.1
  have hAO := hkn.2.2.1
  generalize hAe : va_A [(h0, .inr (11, [.ref tp, .ref rd, .ref se, .ref ba, .ref of, .ref pl, .ref sr, .ref sc, .int wk])), (ba, .inl (E.2.1 4, 6, .inr (.inr (.inr (.inr fb))))), (bo_, .inr (0, [.ref sp, .ref pa, .int lt, .ref ru, .ref co, .ref tr])), (tr, .inr (4, [.ref wy, .int wl_, .int (nI ps), .int sta, .int hp, .int fd, .int pe, .int at_, .int go, .int tu, .int wa, .int ce, .int wt, .int un, .int fu, .int dr]))] s.heap.size = A at hD hst ⊢
  have hA : ∀ q : Nat, s.heap.size ≤ q → A q := fun q h => by rw [← hAe]; exact Or.inr h
  have hS : va_S A s.heap s.heap [] := va_S.rf
  have hP : va_P E.1 vwCl [(h0, .inr (11, [.ref tp, .ref rd, .ref se, .ref ba, .ref of, .ref pl, .ref sr, .ref sc, .int wk])), (ba, .inl (E.2.1 4, 6, .inr (.inr (.inr (.inr fb))))), (bo_, .inr (0, [.ref sp, .ref pa, .int lt, .ref ru, .ref co, .ref tr])), (tr, .inr (4, [.ref wy, .int wl_, .int (nI ps), .int sta, .int hp, .int fd, .int pe, .int at_, .int go, .int tu, .int wa, .int ce, .int wt, .int un, .int fu, .int dr]))] s.heap := hP
  have hl := lv_entry ([.ref h0, .int b, .int what]) (n := 3) (Nat.le_of_ble_eq_true rfl)
  rw [lg_entry_eq]
  generalize (lg_sl ([.ref h0, .int b, .int what]) ++ List.replicate (3 - (lg_sl ([.ref h0, .int b, .int what])).length) Slot.unset).toArray = ls at hl ⊢
  have hl : lv_has ls 3 [(0, .ref h0), (1, .int b), (2, .int what)] := hl
  have fl34 := hts (.fieldLink RX11 34 "BoatsHome" "boats" "[LBoatsHome$Boat;") (by first | exact List.mem_of_getElem? (i := 1) rfl | decide +kernel)
  have fl144 := hts (.fieldLink RX11 144 "BoatsHome$Boat" "trip" "LBoatsHome$Passage;") (by first | exact List.mem_of_getElem? (i := 2) rfl | decide +kernel)
  have fl148 := hts (.fieldLink RX11 148 "BoatsHome$Passage" "state" "I") (by first | exact List.mem_of_getElem? (i := 3) rfl | decide +kernel)
  have inX0 : ∀ w ∈ u_ws RX0 TX0 6, w ∈ wsX11_passage := by first | exact fun w h9 => (List.mem_cons_of_mem _ (List.mem_append_left _ (List.mem_append_right _ h9))) | decide +kernel
  have inX11 : ∀ w ∈ u_ws RX11 TX11 9, w ∈ wsX11_passage := by first | exact fun w h9 => (List.mem_cons_of_mem _ (List.mem_append_left _ (List.mem_append_left _ (List.mem_append_right _ h9)))) | decide +kernel
  have inX4 : ∀ w ∈ u_ws RX4 TX4 16, w ∈ wsX11_passage := by first | exact fun w h9 => (List.mem_cons_of_mem _ (List.mem_append_right _ h9)) | decide +kernel
  refine lv_iload_n hx hb dX11_passage_0 rfl (lv_at hl 1 rfl) ?_
  refine lv_bipush (v := 6) hx hb dX11_passage_1 (by decide) ?_
  have hPc := hP.sub (ws' := []) [] rfl
  have hDc := hD.sub (ws' := []) [] (by decide) rfl
  have hFc := va_free (wc := []) hD hS hA [] rfl
  refine va_calli (va_runS (As := [.int b, .int 6]) (rest := []) ⟨hx, hb, hml, hown, hts⟩ (c_X11_below l E b 6 5 s.heap.size (lt_le (by decide))) (va_cwS 2 hts gX11_passage_X11_below rfl rfl rfl hdS_X11_below ⟨Nat.le_of_ble_eq_true rfl, Nat.le_of_ble_eq_true rfl⟩) ⟨pcW_blind, (pcW_pre hPc hkn hDc hst hS hFc)⟩ rfl rfl hl.1 rfl (lv_room (Nat.le_of_ble_eq_true rfl)) dX11_passage_3 ⟨Nat.le_of_ble_eq_true rfl, Nat.le_of_ble_eq_true rfl⟩) hS (fun q _ h => hFc q h) hFc (fun r_1 u t H1 locs ht hvm hw_2 hB hz1 hk1 hS => ?_)
  obtain ⟨hP1, hD1⟩ := hB
  rw [ht] at hP1
  try dsimp only at hw_2
  obtain ⟨hP, hD⟩ := va_join (wr := [(h0, .inr (11, [.ref tp, .ref rd, .ref se, .ref ba, .ref of, .ref pl, .ref sr, .ref sc, .int wk])), (ba, .inl (E.2.1 4, 6, .inr (.inr (.inr (.inr fb))))), (bo_, .inr (0, [.ref sp, .ref pa, .int lt, .ref ru, .ref co, .ref tr])), (tr, .inr (4, [.ref wy, .int wl_, .int (nI ps), .int sta, .int hp, .int fd, .int pe, .int at_, .int go, .int tu, .int wa, .int ce, .int wt, .int un, .int fu, .int dr]))]) (w1 := []) hP hD [] [0, 1, 2, 3] rfl rfl (by decide) (by decide) hk1 hFc hP1 hD1
  generalize H1 = H at hP hS ⊢
  have hP : va_P E.1 vwCl [(h0, .inr (11, [.ref tp, .ref rd, .ref se, .ref ba, .ref of, .ref pl, .ref sr, .ref sc, .int wk])), (ba, .inl (E.2.1 4, 6, .inr (.inr (.inr (.inr fb))))), (bo_, .inr (0, [.ref sp, .ref pa, .int lt, .ref ru, .ref co, .ref tr])), (tr, .inr (4, [.ref wy, .int wl_, .int (nI ps), .int sta, .int hp, .int fd, .int pe, .int at_, .int go, .int tu, .int wa, .int ce, .int wt, .int un, .int fu, .int dr]))] H := hP
  have hD : va_D A [(h0, .inr (11, [.ref tp, .ref rd, .ref se, .ref ba, .ref of, .ref pl, .ref sr, .ref sc, .int wk])), (ba, .inl (E.2.1 4, 6, .inr (.inr (.inr (.inr fb))))), (bo_, .inr (0, [.ref sp, .ref pa, .int lt, .ref ru, .ref co, .ref tr])), (tr, .inr (4, [.ref wy, .int wl_, .int (nI ps), .int sta, .int hp, .int fd, .int pe, .int at_, .int go, .int tu, .int wa, .int ce, .int wt, .int un, .int fu, .int dr]))] := hD
  refine lv_if_eq (tgt := 25) hx hb dX11_passage_6 (by decide) (fun c_3 => ?_) (fun c_3 => ?_)
  · have b_4 : inR b 0 5 = false := bz hw_2 c_3
    refine lv_bipush (v := (-9)) hx hb dX11_passage_25 (by decide) ?_
    have hP9 := hP.sub (ws' := [(h0, .inr (11, [.ref tp, .ref rd, .ref se, .ref ba, .ref of, .ref pl, .ref sr, .ref sc, .int wk])), (ba, .inl (E.2.1 4, 6, .inr (.inr (.inr (.inr fb))))), (bo_, .inr (0, [.ref sp, .ref pa, .int lt, .ref ru, .ref co, .ref tr])), (tr, .inr (4, [.ref wy, .int wl_, .int (nI ps), .int sta, .int hp, .int fd, .int pe, .int at_, .int go, .int tu, .int wa, .int ce, .int wt, .int un, .int fu, .int dr]))]) [0, 1, 2, 3] rfl
    have hD9 := hD.sub (ws' := [(h0, .inr (11, [.ref tp, .ref rd, .ref se, .ref ba, .ref of, .ref pl, .ref sr, .ref sc, .int wk])), (ba, .inl (E.2.1 4, 6, .inr (.inr (.inr (.inr fb))))), (bo_, .inr (0, [.ref sp, .ref pa, .int lt, .ref ru, .ref co, .ref tr])), (tr, .inr (4, [.ref wy, .int wl_, .int (nI ps), .int sta, .int hp, .int fd, .int pe, .int at_, .int go, .int tu, .int wa, .int ce, .int wt, .int un, .int fu, .int dr]))]) [0, 1, 2, 3] (by decide) rfl
    exact W.iret (v := (-9)) hx hb hr (fun t ht hW => ⟨⟨(-9), (), rfl, trivial, by rw [ht]; exact hP9, hD9⟩, hS.F ht⟩) hS.2.2 dX11_passage_27
  · have b_5 : inR b 0 5 = true := bn hw_2 c_3
    refine lv_aload_n hx hb dX11_passage_9 rfl (lv_at hl 0 rfl) ?_
    refine va_get (D := E.1) (ci := 11) (v := .ref ba) (C := RX11) (T := TX11) (N := 9) hx hb hts inX11 hown hK hP 0 rfl rfl 3 (by decide) fl34 (fun _ h9 => h9) rfl dX11_passage_10 ?_
    refine lv_iload_n hx hb dX11_passage_13 rfl (lv_at hl 1 rfl) ?_
    have hi_6 : vp_in b 6 := inR_in (by decide) b_5
    refine va_aldq hx hb hK hP 1 4 rfl rfl hi_6 dX11_passage_14 ?_
    rw [show va_rf (fb b.toNatClampNeg) = .ref bo_ from by rw [hfb b_5]; rfl]
    refine va_get (D := E.1) (ci := 0) (v := .ref tr) (C := RX0) (T := TX0) (N := 6) hx hb hts inX0 hown hK hP 2 rfl rfl 5 (by decide) fl144 (fun _ h9 => h9) rfl dX11_passage_15 ?_
    refine va_get (D := E.1) (ci := 4) (v := .int sta) (C := RX4) (T := TX4) (N := 16) hx hb hts inX4 hown hK hP 3 rfl rfl 3 (by decide) fl148 (fun _ h9 => h9) rfl dX11_passage_18 ?_
    refine lv_iconst (v := (-1)) hx hb dX11_passage_21 (by decide) ?_
    refine lv_icmp_ne (tgt := 28) hx hb dX11_passage_22 (by decide) (fun c_7 => ?_) (fun c_7 => ?_)
    · refine lv_aload_n hx hb dX11_passage_28 rfl (lv_at hl 0 rfl) ?_
      refine va_get (D := E.1) (ci := 11) (v := .ref ba) (C := RX11) (T := TX11) (N := 9) hx hb hts inX11 hown hK hP 0 rfl rfl 3 (by decide) fl34 (fun _ h9 => h9) rfl dX11_passage_29 ?_
      refine lv_iload_n hx hb dX11_passage_32 rfl (lv_at hl 1 rfl) ?_
      refine va_aldq hx hb hK hP 1 4 rfl rfl hi_6 dX11_passage_33 ?_
      rw [show va_rf (fb b.toNatClampNeg) = .ref bo_ from by rw [hfb b_5]; rfl]
      refine va_get (D := E.1) (ci := 0) (v := .ref tr) (C := RX0) (T := TX0) (N := 6) hx hb hts inX0 hown hK hP 2 rfl rfl 5 (by decide) fl144 (fun _ h9 => h9) rfl dX11_passage_34 ?_
      refine lv_iload_n hx hb dX11_passage_37 rfl (lv_at hl 2 rfl) ?_
      have hPc := hP.sub (ws' := [(tr, .inr (4, [.ref wy, .int wl_, .int (nI ps), .int sta, .int hp, .int fd, .int pe, .int at_, .int go, .int tu, .int wa, .int ce, .int wt, .int un, .int fu, .int dr]))]) [3] rfl
      have hDc := hD.sub (ws' := [(tr, .inr (4, [.ref wy, .int wl_, .int (nI ps), .int sta, .int hp, .int fd, .int pe, .int at_, .int go, .int tu, .int wa, .int ce, .int wt, .int un, .int fu, .int dr]))]) [3] (by decide) rfl
      have hFc := va_free (wc := [(tr, .inr (4, [.ref wy, .int wl_, .int (nI ps), .int sta, .int hp, .int fd, .int pe, .int at_, .int go, .int tu, .int wa, .int ce, .int wt, .int un, .int fu, .int dr]))]) hD hS hA [3] rfl
      refine va_calli (va_runV (As := [.int what]) (rest := []) ⟨hx, hb, hml, hown, hts⟩ (c_X4_tell l E tr wy ps wl_ sta hp fd pe at_ go tu wa ce wt un fu dr (fun _ => 0) what H.size ) (cwV 1 hts gX11_passage_X4_tell rfl rfl rfl hdV_X4_tell ⟨Nat.le_of_ble_eq_true rfl, Nat.le_of_ble_eq_true rfl⟩) ⟨pcW_blind, va_recv hK hPc (ci := 4) (q0 := 0) rfl rfl, (pcW_pre hPc hkn hDc hst hS hFc)⟩ rfl rfl hl.1 rfl (lv_room (Nat.le_of_ble_eq_true rfl)) dX11_passage_38 ⟨Nat.le_of_ble_eq_true rfl, Nat.le_of_ble_eq_true rfl⟩) hS (fun q _ h => hFc q h) hFc (fun r_8 u t H1 locs ht hvm hw_9 hB hz1 hk1 hS => ?_)
      obtain ⟨hP1, hD1⟩ := hB
      rw [ht] at hP1
      try dsimp only at hw_9
      obtain ⟨hP, hD⟩ := va_join (wr := [(h0, .inr (11, [.ref tp, .ref rd, .ref se, .ref ba, .ref of, .ref pl, .ref sr, .ref sc, .int wk])), (ba, .inl (E.2.1 4, 6, .inr (.inr (.inr (.inr fb))))), (bo_, .inr (0, [.ref sp, .ref pa, .int lt, .ref ru, .ref co, .ref tr]))]) (w1 := [(tr, .inr (4, [.ref wy, .int wl_, .int (nI ps), .int sta, .int hp, .int fd, .int pe, .int at_, .int go, .int tu, .int wa, .int ce, .int wt, .int un, .int fu, .int dr]))]) hP hD [3] [0, 1, 2] rfl rfl (by decide) (by decide) hk1 hFc hP1 hD1
      generalize H1 = H at hP hS ⊢
      have hP : va_P E.1 vwCl [(h0, .inr (11, [.ref tp, .ref rd, .ref se, .ref ba, .ref of, .ref pl, .ref sr, .ref sc, .int wk])), (ba, .inl (E.2.1 4, 6, .inr (.inr (.inr (.inr fb))))), (bo_, .inr (0, [.ref sp, .ref pa, .int lt, .ref ru, .ref co, .ref tr])), (tr, .inr (4, [.ref wy, .int wl_, .int (nI ps), .int sta, .int hp, .int fd, .int pe, .int at_, .int go, .int tu, .int wa, .int ce, .int wt, .int un, .int fu, .int dr]))] H := hP
      have hD : va_D A [(h0, .inr (11, [.ref tp, .ref rd, .ref se, .ref ba, .ref of, .ref pl, .ref sr, .ref sc, .int wk])), (ba, .inl (E.2.1 4, 6, .inr (.inr (.inr (.inr fb))))), (bo_, .inr (0, [.ref sp, .ref pa, .int lt, .ref ru, .ref co, .ref tr])), (tr, .inr (4, [.ref wy, .int wl_, .int (nI ps), .int sta, .int hp, .int fd, .int pe, .int at_, .int go, .int tu, .int wa, .int ce, .int wt, .int un, .int fu, .int dr]))] := hD
      have hP9 := hP.sub (ws' := [(h0, .inr (11, [.ref tp, .ref rd, .ref se, .ref ba, .ref of, .ref pl, .ref sr, .ref sc, .int wk])), (ba, .inl (E.2.1 4, 6, .inr (.inr (.inr (.inr fb))))), (bo_, .inr (0, [.ref sp, .ref pa, .int lt, .ref ru, .ref co, .ref tr])), (tr, .inr (4, [.ref wy, .int wl_, .int (nI ps), .int sta, .int hp, .int fd, .int pe, .int at_, .int go, .int tu, .int wa, .int ce, .int wt, .int un, .int fu, .int dr]))]) [0, 1, 2, 3] rfl
      have hD9 := hD.sub (ws' := [(h0, .inr (11, [.ref tp, .ref rd, .ref se, .ref ba, .ref of, .ref pl, .ref sr, .ref sc, .int wk])), (ba, .inl (E.2.1 4, 6, .inr (.inr (.inr (.inr fb))))), (bo_, .inr (0, [.ref sp, .ref pa, .int lt, .ref ru, .ref co, .ref tr])), (tr, .inr (4, [.ref wy, .int wl_, .int (nI ps), .int sta, .int hp, .int fd, .int pe, .int at_, .int go, .int tu, .int wa, .int ce, .int wt, .int un, .int fu, .int dr]))]) [0, 1, 2, 3] (by decide) rfl
      exact W.iret (v := r_8) hx hb hr (fun t ht hW => ⟨⟨r_8, (), rfl, trivial, by rw [ht]; exact hP9, hD9⟩, hS.F ht⟩) hS.2.2 dX11_passage_41
    · refine lv_bipush (v := (-9)) hx hb dX11_passage_25 (by decide) ?_
      have hP9 := hP.sub (ws' := [(h0, .inr (11, [.ref tp, .ref rd, .ref se, .ref ba, .ref of, .ref pl, .ref sr, .ref sc, .int wk])), (ba, .inl (E.2.1 4, 6, .inr (.inr (.inr (.inr fb))))), (bo_, .inr (0, [.ref sp, .ref pa, .int lt, .ref ru, .ref co, .ref tr])), (tr, .inr (4, [.ref wy, .int wl_, .int (nI ps), .int sta, .int hp, .int fd, .int pe, .int at_, .int go, .int tu, .int wa, .int ce, .int wt, .int un, .int fu, .int dr]))]) [0, 1, 2, 3] rfl
      have hD9 := hD.sub (ws' := [(h0, .inr (11, [.ref tp, .ref rd, .ref se, .ref ba, .ref of, .ref pl, .ref sr, .ref sc, .int wk])), (ba, .inl (E.2.1 4, 6, .inr (.inr (.inr (.inr fb))))), (bo_, .inr (0, [.ref sp, .ref pa, .int lt, .ref ru, .ref co, .ref tr])), (tr, .inr (4, [.ref wy, .int wl_, .int (nI ps), .int sta, .int hp, .int fd, .int pe, .int at_, .int go, .int tu, .int wa, .int ce, .int wt, .int un, .int fu, .int dr]))]) [0, 1, 2, 3] (by decide) rfl
      exact W.iret (v := (-9)) hx hb hr (fun t ht hW => ⟨⟨(-9), (), rfl, trivial, by rw [ht]; exact hP9, hD9⟩, hS.F ht⟩) hS.2.2 dX11_passage_27
set_option maxHeartbeats 4000000 in
set_option maxRecDepth 100000 in
theorem c_X11_pay (l : Launch) (E : vE) (h0 : Nat) (tp : Nat) (rd : Nat) (se : Nat) (ba : Nat) (of : Nat) (pl : Nat) (sr : Nat) (sc : Nat) (wk : Int32) (bo_ : Nat) (sp : Nat) (pa : Nat) (ru : Nat) (co : Nat) (tr : Nat) (lt : Int32) (fb : Nat → Option Nat) (wy : Nat) (ps : Nat) (wl_ : Int32) (sta : Int32) (hp : Int32) (fd : Int32) (pe : Int32) (at_ : Int32) (go : Int32) (tu : Int32) (wa : Int32) (ce : Int32) (wt : Int32) (un : Int32) (fu : Int32) (dr : Int32) (fy : Nat → Int32) (b : Int32) (kind : Int32) (sum : Int32) (less : Int32) (more : Int32) (sz : Nat) (hfb : inR b 0 5 = true → fb b.toNatClampNeg = some bo_) : Met l yX11_pay wsX11_pay ({ frames := 2, cells := 0, slots := 0, locals := 40 }) (pcW E [.ref h0, .int b, .int kind, .int sum, .int less, .int more] sz [(h0, .inr (11, [.ref tp, .ref rd, .ref se, .ref ba, .ref of, .ref pl, .ref sr, .ref sc, .int wk])), (ba, .inl (E.2.1 4, 6, .inr (.inr (.inr (.inr fb))))), (bo_, .inr (0, [.ref sp, .ref pa, .int lt, .ref ru, .ref co, .ref tr])), (tr, .inr (4, [.ref wy, .int wl_, .int (nI ps), .int sta, .int hp, .int fd, .int pe, .int at_, .int go, .int tu, .int wa, .int ce, .int wt, .int un, .int fu, .int dr]))]) (va_Qi (fun (r : Int32) (_ : Unit) => True) (fun (_ : Unit) (t : State) => wB E (va_A [(h0, .inr (11, [.ref tp, .ref rd, .ref se, .ref ba, .ref of, .ref pl, .ref sr, .ref sc, .int wk])), (ba, .inl (E.2.1 4, 6, .inr (.inr (.inr (.inr fb))))), (bo_, .inr (0, [.ref sp, .ref pa, .int lt, .ref ru, .ref co, .ref tr])), (tr, .inr (4, [.ref wy, .int wl_, .int (nI ps), .int sta, .int hp, .int fd, .int pe, .int at_, .int go, .int tu, .int wa, .int ce, .int wt, .int un, .int fu, .int dr]))] sz) [(h0, .inr (11, [.ref tp, .ref rd, .ref se, .ref ba, .ref of, .ref pl, .ref sr, .ref sc, .int wk])), (ba, .inl (E.2.1 4, 6, .inr (.inr (.inr (.inr fb))))), (bo_, .inr (0, [.ref sp, .ref pa, .int lt, .ref ru, .ref co, .ref tr])), (tr, .inr (4, [.ref wy, .int wl_, .int (nI ps), .int sta, .int hp, .int fd, .int pe, .int at_, .int go, .int tu, .int wa, .int ce, .int wt, .int un, .int fu, .int dr]))] t) (va_A [(h0, .inr (11, [.ref tp, .ref rd, .ref se, .ref ba, .ref of, .ref pl, .ref sr, .ref sc, .int wk])), (ba, .inl (E.2.1 4, 6, .inr (.inr (.inr (.inr fb))))), (bo_, .inr (0, [.ref sp, .ref pa, .int lt, .ref ru, .ref co, .ref tr])), (tr, .inr (4, [.ref wy, .int wl_, .int (nI ps), .int sta, .int hp, .int fd, .int pe, .int at_, .int go, .int tu, .int wa, .int ce, .int wt, .int un, .int fu, .int dr]))] sz)) 0 0 (va_A [(h0, .inr (11, [.ref tp, .ref rd, .ref se, .ref ba, .ref of, .ref pl, .ref sr, .ref sc, .int wk])), (ba, .inl (E.2.1 4, 6, .inr (.inr (.inr (.inr fb))))), (bo_, .inr (0, [.ref sp, .ref pa, .int lt, .ref ru, .ref co, .ref tr])), (tr, .inr (4, [.ref wy, .int wl_, .int (nI ps), .int sta, .int hp, .int fd, .int pe, .int at_, .int go, .int tu, .int wa, .int ce, .int wt, .int un, .int fu, .int dr]))] sz) := by
  refine Met.ofW (cc := cX11_pay) (maxL := 8) (ret := (some .int)) (by decide) rfl ?_
  intro p e s m args below meth c s₁ B hml hv
  obtain ⟨rfl, hsz, hP, hkn, hD0, hst⟩ := hv
  have hx := B.exec
  have hb := B.bytes
  have hr := B.returns
  have hts := atoms_spec (ws := wsX11_pay) B.pre
  have hown : s.vm.findClass RX11 = some m.cls := findClass_of_methodNamed B.named
  have hlocks := B.notSynchronized
  subst hsz
  have hD := hD0.self (sz := s.heap.size)
  have hK := hkn.1
  have hAO := hkn.2.2.1
  generalize hAe : va_A [(h0, .inr (11, [.ref tp, .ref rd, .ref se, .ref ba, .ref of, .ref pl, .ref sr, .ref sc, .int wk])), (ba, .inl (E.2.1 4, 6, .inr (.inr (.inr (.inr fb))))), (bo_, .inr (0, [.ref sp, .ref pa, .int lt, .ref ru, .ref co, .ref tr])), (tr, .inr (4, [.ref wy, .int wl_, .int (nI ps), .int sta, .int hp, .int fd, .int pe, .int at_, .int go, .int tu, .int wa, .int ce, .int wt, .int un, .int fu, .int dr]))] s.heap.size = A at hD hst ⊢
  have hA : ∀ q : Nat, s.heap.size ≤ q → A q := fun q h => by rw [← hAe]; exact Or.inr h
  have hS : va_S A s.heap s.heap [] := va_S.rf
  have hP : va_P E.1 vwCl [(h0, .inr (11, [.ref tp, .ref rd, .ref se, .ref ba, .ref of, .ref pl, .ref sr, .ref sc, .int wk])), (ba, .inl (E.2.1 4, 6, .inr (.inr (.inr (.inr fb))))), (bo_, .inr (0, [.ref sp, .ref pa, .int lt, .ref ru, .ref co, .ref tr])), (tr, .inr (4, [.ref wy, .int wl_, .int (nI ps), .int sta, .int hp, .int fd, .int pe, .int at_, .int go, .int tu, .int wa, .int ce, .int wt, .int un, .int fu, .int dr]))] s.heap := hP
  have hl := lv_entry ([.ref h0, .int b, .int kind, .int sum, .int less, .int more]) (n := 8) (Nat.le_of_ble_eq_true rfl)
  rw [lg_entry_eq]
  generalize (lg_sl ([.ref h0, .int b, .int kind, .int sum, .int less, .int more]) ++ List.replicate (8 - (lg_sl ([.ref h0, .int b, .int kind, .int sum, .int less, .int more])).length) Slot.unset).toArray = ls at hl ⊢
  have hl : lv_has ls 8 [(0, .ref h0), (1, .int b), (2, .int kind), (3, .int sum), (4, .int less), (5, .int more)] := hl
  have fl34 := hts (.fieldLink RX11 34 "BoatsHome" "boats" "[LBoatsHome$Boat;") (by first | exact List.mem_of_getElem? (i := 3) rfl | decide +kernel)
  have fl144 := hts (.fieldLink RX11 144 "BoatsHome$Boat" "trip" "LBoatsHome$Passage;") (by first | exact List.mem_of_getElem? (i := 4) rfl | decide +kernel)
  have fl148 := hts (.fieldLink RX11 148 "BoatsHome$Passage" "state" "I") (by first | exact List.mem_of_getElem? (i := 5) rfl | decide +kernel)
  have fl191 := hts (.fieldLink RX11 191 "BoatsHome$Passage" "uncovered" "I") (by first | exact List.mem_of_getElem? (i := 7) rfl | decide +kernel)
  have fl194 := hts (.fieldLink RX11 194 "BoatsHome$Passage" "dry" "I") (by first | exact List.mem_of_getElem? (i := 8) rfl | decide +kernel)
  have inX0 : ∀ w ∈ u_ws RX0 TX0 6, w ∈ wsX11_pay := by first | exact fun w h9 => (List.mem_cons_of_mem _ (List.mem_append_left _ (List.mem_append_right _ h9))) | decide +kernel
  have inX11 : ∀ w ∈ u_ws RX11 TX11 9, w ∈ wsX11_pay := by first | exact fun w h9 => (List.mem_cons_of_mem _ (List.mem_append_left _ (List.mem_append_left _ (List.mem_append_right _ h9)))) | decide +kernel
  have inX4 : ∀ w ∈ u_ws RX4 TX4 16, w ∈ wsX11_pay := by first | exact fun w h9 => (List.mem_cons_of_mem _ (List.mem_append_right _ h9)) | decide +kernel
  refine lv_iload_n hx hb dX11_pay_0 rfl (lv_at hl 1 rfl) ?_
  refine lv_bipush (v := 6) hx hb dX11_pay_1 (by decide) ?_
  have hPc := hP.sub (ws' := []) [] rfl
  have hDc := hD.sub (ws' := []) [] (by decide) rfl
  have hFc := va_free (wc := []) hD hS hA [] rfl
  refine va_calli (va_runS (As := [.int b, .int 6]) (rest := []) ⟨hx, hb, hml, hown, hts⟩ (c_X11_below l E b 6 5 s.heap.size (lt_le (by decide))) (va_cwS 2 hts gX11_pay_X11_below rfl rfl rfl hdS_X11_below ⟨Nat.le_of_ble_eq_true rfl, Nat.le_of_ble_eq_true rfl⟩) ⟨pcW_blind, (pcW_pre hPc hkn hDc hst hS hFc)⟩ rfl rfl hl.1 rfl (lv_room (Nat.le_of_ble_eq_true rfl)) dX11_pay_3 ⟨Nat.le_of_ble_eq_true rfl, Nat.le_of_ble_eq_true rfl⟩) hS (fun q _ h => hFc q h) hFc (fun r_1 u t H1 locs ht hvm hw_2 hB hz1 hk1 hS => ?_)
  obtain ⟨hP1, hD1⟩ := hB
  rw [ht] at hP1
  try dsimp only at hw_2
  obtain ⟨hP, hD⟩ := va_join (wr := [(h0, .inr (11, [.ref tp, .ref rd, .ref se, .ref ba, .ref of, .ref pl, .ref sr, .ref sc, .int wk])), (ba, .inl (E.2.1 4, 6, .inr (.inr (.inr (.inr fb))))), (bo_, .inr (0, [.ref sp, .ref pa, .int lt, .ref ru, .ref co, .ref tr])), (tr, .inr (4, [.ref wy, .int wl_, .int (nI ps), .int sta, .int hp, .int fd, .int pe, .int at_, .int go, .int tu, .int wa, .int ce, .int wt, .int un, .int fu, .int dr]))]) (w1 := []) hP hD [] [0, 1, 2, 3] rfl rfl (by decide) (by decide) hk1 hFc hP1 hD1
  generalize H1 = H at hP hS ⊢
  have hP : va_P E.1 vwCl [(h0, .inr (11, [.ref tp, .ref rd, .ref se, .ref ba, .ref of, .ref pl, .ref sr, .ref sc, .int wk])), (ba, .inl (E.2.1 4, 6, .inr (.inr (.inr (.inr fb))))), (bo_, .inr (0, [.ref sp, .ref pa, .int lt, .ref ru, .ref co, .ref tr])), (tr, .inr (4, [.ref wy, .int wl_, .int (nI ps), .int sta, .int hp, .int fd, .int pe, .int at_, .int go, .int tu, .int wa, .int ce, .int wt, .int un, .int fu, .int dr]))] H := hP
  have hD : va_D A [(h0, .inr (11, [.ref tp, .ref rd, .ref se, .ref ba, .ref of, .ref pl, .ref sr, .ref sc, .int wk])), (ba, .inl (E.2.1 4, 6, .inr (.inr (.inr (.inr fb))))), (bo_, .inr (0, [.ref sp, .ref pa, .int lt, .ref ru, .ref co, .ref tr])), (tr, .inr (4, [.ref wy, .int wl_, .int (nI ps), .int sta, .int hp, .int fd, .int pe, .int at_, .int go, .int tu, .int wa, .int ce, .int wt, .int un, .int fu, .int dr]))] := hD
  refine lv_if_eq (tgt := 52) hx hb dX11_pay_6 (by decide) (fun c_3 => ?_) (fun c_3 => ?_)
  · have b_4 : inR b 0 5 = false := bz hw_2 c_3
    refine lv_ldc (v := (-2000000000)) hx hb hown (hts (.constant RX11 182 (-2000000000)) (by first | exact List.mem_of_getElem? (i := 2) rfl | decide +kernel)) dX11_pay_52 ?_
    have hP9 := hP.sub (ws' := [(h0, .inr (11, [.ref tp, .ref rd, .ref se, .ref ba, .ref of, .ref pl, .ref sr, .ref sc, .int wk])), (ba, .inl (E.2.1 4, 6, .inr (.inr (.inr (.inr fb))))), (bo_, .inr (0, [.ref sp, .ref pa, .int lt, .ref ru, .ref co, .ref tr])), (tr, .inr (4, [.ref wy, .int wl_, .int (nI ps), .int sta, .int hp, .int fd, .int pe, .int at_, .int go, .int tu, .int wa, .int ce, .int wt, .int un, .int fu, .int dr]))]) [0, 1, 2, 3] rfl
    have hD9 := hD.sub (ws' := [(h0, .inr (11, [.ref tp, .ref rd, .ref se, .ref ba, .ref of, .ref pl, .ref sr, .ref sc, .int wk])), (ba, .inl (E.2.1 4, 6, .inr (.inr (.inr (.inr fb))))), (bo_, .inr (0, [.ref sp, .ref pa, .int lt, .ref ru, .ref co, .ref tr])), (tr, .inr (4, [.ref wy, .int wl_, .int (nI ps), .int sta, .int hp, .int fd, .int pe, .int at_, .int go, .int tu, .int wa, .int ce, .int wt, .int un, .int fu, .int dr]))]) [0, 1, 2, 3] (by decide) rfl
    exact W.iret (v := (-2000000000)) hx hb hr (fun t ht hW => ⟨⟨(-2000000000), (), rfl, trivial, by rw [ht]; exact hP9, hD9⟩, hS.F ht⟩) hS.2.2 dX11_pay_54
  · have b_5 : inR b 0 5 = true := bn hw_2 c_3
    refine lv_iload_n hx hb dX11_pay_9 rfl (lv_at hl 2 rfl) ?_
    refine lv_iconst (v := 0) hx hb dX11_pay_10 (by decide) ?_
    refine lv_iconst (v := 1) hx hb dX11_pay_11 (by decide) ?_
    have hPc := hP.sub (ws' := []) [] rfl
    have hDc := hD.sub (ws' := []) [] (by decide) rfl
    have hFc := va_free (wc := []) hD hS hA [] rfl
    refine va_calli (va_runS (As := [.int kind, .int 0, .int 1]) (rest := []) ⟨hx, hb, hml, hown, hts⟩ (c_X11_within l E kind 0 1 H.size ) (va_cwS 3 hts gX11_pay_X11_within rfl rfl rfl hdS_X11_within ⟨Nat.le_of_ble_eq_true rfl, Nat.le_of_ble_eq_true rfl⟩) ⟨pcW_blind, (pcW_pre hPc hkn hDc hst hS hFc)⟩ rfl rfl hl.1 rfl (lv_room (Nat.le_of_ble_eq_true rfl)) dX11_pay_12 ⟨Nat.le_of_ble_eq_true rfl, Nat.le_of_ble_eq_true rfl⟩) hS (fun q _ h => hFc q h) hFc (fun r_6 u t H1 locs ht hvm hw_7 hB hz1 hk1 hS => ?_)
    obtain ⟨hP1, hD1⟩ := hB
    rw [ht] at hP1
    try dsimp only at hw_7
    obtain ⟨hP, hD⟩ := va_join (wr := [(h0, .inr (11, [.ref tp, .ref rd, .ref se, .ref ba, .ref of, .ref pl, .ref sr, .ref sc, .int wk])), (ba, .inl (E.2.1 4, 6, .inr (.inr (.inr (.inr fb))))), (bo_, .inr (0, [.ref sp, .ref pa, .int lt, .ref ru, .ref co, .ref tr])), (tr, .inr (4, [.ref wy, .int wl_, .int (nI ps), .int sta, .int hp, .int fd, .int pe, .int at_, .int go, .int tu, .int wa, .int ce, .int wt, .int un, .int fu, .int dr]))]) (w1 := []) hP hD [] [0, 1, 2, 3] rfl rfl (by decide) (by decide) hk1 hFc hP1 hD1
    generalize H1 = H at hP hS ⊢
    have hP : va_P E.1 vwCl [(h0, .inr (11, [.ref tp, .ref rd, .ref se, .ref ba, .ref of, .ref pl, .ref sr, .ref sc, .int wk])), (ba, .inl (E.2.1 4, 6, .inr (.inr (.inr (.inr fb))))), (bo_, .inr (0, [.ref sp, .ref pa, .int lt, .ref ru, .ref co, .ref tr])), (tr, .inr (4, [.ref wy, .int wl_, .int (nI ps), .int sta, .int hp, .int fd, .int pe, .int at_, .int go, .int tu, .int wa, .int ce, .int wt, .int un, .int fu, .int dr]))] H := hP
    have hD : va_D A [(h0, .inr (11, [.ref tp, .ref rd, .ref se, .ref ba, .ref of, .ref pl, .ref sr, .ref sc, .int wk])), (ba, .inl (E.2.1 4, 6, .inr (.inr (.inr (.inr fb))))), (bo_, .inr (0, [.ref sp, .ref pa, .int lt, .ref ru, .ref co, .ref tr])), (tr, .inr (4, [.ref wy, .int wl_, .int (nI ps), .int sta, .int hp, .int fd, .int pe, .int at_, .int go, .int tu, .int wa, .int ce, .int wt, .int un, .int fu, .int dr]))] := hD
    refine lv_if_eq (tgt := 52) hx hb dX11_pay_15 (by decide) (fun c_8 => ?_) (fun c_8 => ?_)
    · have b_9 : inR kind 0 1 = false := bz hw_7 c_8
      refine lv_ldc (v := (-2000000000)) hx hb hown (hts (.constant RX11 182 (-2000000000)) (by first | exact List.mem_of_getElem? (i := 2) rfl | decide +kernel)) dX11_pay_52 ?_
      have hP9 := hP.sub (ws' := [(h0, .inr (11, [.ref tp, .ref rd, .ref se, .ref ba, .ref of, .ref pl, .ref sr, .ref sc, .int wk])), (ba, .inl (E.2.1 4, 6, .inr (.inr (.inr (.inr fb))))), (bo_, .inr (0, [.ref sp, .ref pa, .int lt, .ref ru, .ref co, .ref tr])), (tr, .inr (4, [.ref wy, .int wl_, .int (nI ps), .int sta, .int hp, .int fd, .int pe, .int at_, .int go, .int tu, .int wa, .int ce, .int wt, .int un, .int fu, .int dr]))]) [0, 1, 2, 3] rfl
      have hD9 := hD.sub (ws' := [(h0, .inr (11, [.ref tp, .ref rd, .ref se, .ref ba, .ref of, .ref pl, .ref sr, .ref sc, .int wk])), (ba, .inl (E.2.1 4, 6, .inr (.inr (.inr (.inr fb))))), (bo_, .inr (0, [.ref sp, .ref pa, .int lt, .ref ru, .ref co, .ref tr])), (tr, .inr (4, [.ref wy, .int wl_, .int (nI ps), .int sta, .int hp, .int fd, .int pe, .int at_, .int go, .int tu, .int wa, .int ce, .int wt, .int un, .int fu, .int dr]))]) [0, 1, 2, 3] (by decide) rfl
      exact W.iret (v := (-2000000000)) hx hb hr (fun t ht hW => ⟨⟨(-2000000000), (), rfl, trivial, by rw [ht]; exact hP9, hD9⟩, hS.F ht⟩) hS.2.2 dX11_pay_54
    · have b_10 : inR kind 0 1 = true := bn hw_7 c_8
      refine lv_iload_n hx hb dX11_pay_18 rfl (lv_at hl 3 rfl) ?_
      refine lv_iconst (v := 0) hx hb dX11_pay_19 (by decide) ?_
      refine lv_ldc (v := 100000) hx hb hown (hts (.constant RX11 181 100000) (by first | exact List.mem_of_getElem? (i := 1) rfl | decide +kernel)) dX11_pay_20 ?_
      have hPc := hP.sub (ws' := []) [] rfl
      have hDc := hD.sub (ws' := []) [] (by decide) rfl
      have hFc := va_free (wc := []) hD hS hA [] rfl
      refine va_calli (va_runS (As := [.int sum, .int 0, .int 100000]) (rest := []) ⟨hx, hb, hml, hown, hts⟩ (c_X11_within l E sum 0 100000 H.size ) (va_cwS 3 hts gX11_pay_X11_within rfl rfl rfl hdS_X11_within ⟨Nat.le_of_ble_eq_true rfl, Nat.le_of_ble_eq_true rfl⟩) ⟨pcW_blind, (pcW_pre hPc hkn hDc hst hS hFc)⟩ rfl rfl hl.1 rfl (lv_room (Nat.le_of_ble_eq_true rfl)) dX11_pay_22 ⟨Nat.le_of_ble_eq_true rfl, Nat.le_of_ble_eq_true rfl⟩) hS (fun q _ h => hFc q h) hFc (fun r_11 u t H1 locs ht hvm hw_12 hB hz1 hk1 hS => ?_)
      obtain ⟨hP1, hD1⟩ := hB
      rw [ht] at hP1
      try dsimp only at hw_12
      obtain ⟨hP, hD⟩ := va_join (wr := [(h0, .inr (11, [.ref tp, .ref rd, .ref se, .ref ba, .ref of, .ref pl, .ref sr, .ref sc, .int wk])), (ba, .inl (E.2.1 4, 6, .inr (.inr (.inr (.inr fb))))), (bo_, .inr (0, [.ref sp, .ref pa, .int lt, .ref ru, .ref co, .ref tr])), (tr, .inr (4, [.ref wy, .int wl_, .int (nI ps), .int sta, .int hp, .int fd, .int pe, .int at_, .int go, .int tu, .int wa, .int ce, .int wt, .int un, .int fu, .int dr]))]) (w1 := []) hP hD [] [0, 1, 2, 3] rfl rfl (by decide) (by decide) hk1 hFc hP1 hD1
      generalize H1 = H at hP hS ⊢
      have hP : va_P E.1 vwCl [(h0, .inr (11, [.ref tp, .ref rd, .ref se, .ref ba, .ref of, .ref pl, .ref sr, .ref sc, .int wk])), (ba, .inl (E.2.1 4, 6, .inr (.inr (.inr (.inr fb))))), (bo_, .inr (0, [.ref sp, .ref pa, .int lt, .ref ru, .ref co, .ref tr])), (tr, .inr (4, [.ref wy, .int wl_, .int (nI ps), .int sta, .int hp, .int fd, .int pe, .int at_, .int go, .int tu, .int wa, .int ce, .int wt, .int un, .int fu, .int dr]))] H := hP
      have hD : va_D A [(h0, .inr (11, [.ref tp, .ref rd, .ref se, .ref ba, .ref of, .ref pl, .ref sr, .ref sc, .int wk])), (ba, .inl (E.2.1 4, 6, .inr (.inr (.inr (.inr fb))))), (bo_, .inr (0, [.ref sp, .ref pa, .int lt, .ref ru, .ref co, .ref tr])), (tr, .inr (4, [.ref wy, .int wl_, .int (nI ps), .int sta, .int hp, .int fd, .int pe, .int at_, .int go, .int tu, .int wa, .int ce, .int wt, .int un, .int fu, .int dr]))] := hD
      refine lv_if_eq (tgt := 52) hx hb dX11_pay_25 (by decide) (fun c_13 => ?_) (fun c_13 => ?_)
      · have b_14 : inR sum 0 100000 = false := bz hw_12 c_13
        refine lv_ldc (v := (-2000000000)) hx hb hown (hts (.constant RX11 182 (-2000000000)) (by first | exact List.mem_of_getElem? (i := 2) rfl | decide +kernel)) dX11_pay_52 ?_
        have hP9 := hP.sub (ws' := [(h0, .inr (11, [.ref tp, .ref rd, .ref se, .ref ba, .ref of, .ref pl, .ref sr, .ref sc, .int wk])), (ba, .inl (E.2.1 4, 6, .inr (.inr (.inr (.inr fb))))), (bo_, .inr (0, [.ref sp, .ref pa, .int lt, .ref ru, .ref co, .ref tr])), (tr, .inr (4, [.ref wy, .int wl_, .int (nI ps), .int sta, .int hp, .int fd, .int pe, .int at_, .int go, .int tu, .int wa, .int ce, .int wt, .int un, .int fu, .int dr]))]) [0, 1, 2, 3] rfl
        have hD9 := hD.sub (ws' := [(h0, .inr (11, [.ref tp, .ref rd, .ref se, .ref ba, .ref of, .ref pl, .ref sr, .ref sc, .int wk])), (ba, .inl (E.2.1 4, 6, .inr (.inr (.inr (.inr fb))))), (bo_, .inr (0, [.ref sp, .ref pa, .int lt, .ref ru, .ref co, .ref tr])), (tr, .inr (4, [.ref wy, .int wl_, .int (nI ps), .int sta, .int hp, .int fd, .int pe, .int at_, .int go, .int tu, .int wa, .int ce, .int wt, .int un, .int fu, .int dr]))]) [0, 1, 2, 3] (by decide) rfl
        exact W.iret (v := (-2000000000)) hx hb hr (fun t ht hW => ⟨⟨(-2000000000), (), rfl, trivial, by rw [ht]; exact hP9, hD9⟩, hS.F ht⟩) hS.2.2 dX11_pay_54
      · have b_15 : inR sum 0 100000 = true := bn hw_12 c_13
        refine lv_iload hx hb dX11_pay_28 (lv_at hl 4 rfl) ?_
        refine lv_iconst (v := 0) hx hb dX11_pay_30 (by decide) ?_
        refine lv_sipush (v := 1000) hx hb dX11_pay_31 (by decide) ?_
        have hPc := hP.sub (ws' := []) [] rfl
        have hDc := hD.sub (ws' := []) [] (by decide) rfl
        have hFc := va_free (wc := []) hD hS hA [] rfl
        refine va_calli (va_runS (As := [.int less, .int 0, .int 1000]) (rest := []) ⟨hx, hb, hml, hown, hts⟩ (c_X11_within l E less 0 1000 H.size ) (va_cwS 3 hts gX11_pay_X11_within rfl rfl rfl hdS_X11_within ⟨Nat.le_of_ble_eq_true rfl, Nat.le_of_ble_eq_true rfl⟩) ⟨pcW_blind, (pcW_pre hPc hkn hDc hst hS hFc)⟩ rfl rfl hl.1 rfl (lv_room (Nat.le_of_ble_eq_true rfl)) dX11_pay_34 ⟨Nat.le_of_ble_eq_true rfl, Nat.le_of_ble_eq_true rfl⟩) hS (fun q _ h => hFc q h) hFc (fun r_16 u t H1 locs ht hvm hw_17 hB hz1 hk1 hS => ?_)
        obtain ⟨hP1, hD1⟩ := hB
        rw [ht] at hP1
        try dsimp only at hw_17
        obtain ⟨hP, hD⟩ := va_join (wr := [(h0, .inr (11, [.ref tp, .ref rd, .ref se, .ref ba, .ref of, .ref pl, .ref sr, .ref sc, .int wk])), (ba, .inl (E.2.1 4, 6, .inr (.inr (.inr (.inr fb))))), (bo_, .inr (0, [.ref sp, .ref pa, .int lt, .ref ru, .ref co, .ref tr])), (tr, .inr (4, [.ref wy, .int wl_, .int (nI ps), .int sta, .int hp, .int fd, .int pe, .int at_, .int go, .int tu, .int wa, .int ce, .int wt, .int un, .int fu, .int dr]))]) (w1 := []) hP hD [] [0, 1, 2, 3] rfl rfl (by decide) (by decide) hk1 hFc hP1 hD1
        generalize H1 = H at hP hS ⊢
        have hP : va_P E.1 vwCl [(h0, .inr (11, [.ref tp, .ref rd, .ref se, .ref ba, .ref of, .ref pl, .ref sr, .ref sc, .int wk])), (ba, .inl (E.2.1 4, 6, .inr (.inr (.inr (.inr fb))))), (bo_, .inr (0, [.ref sp, .ref pa, .int lt, .ref ru, .ref co, .ref tr])), (tr, .inr (4, [.ref wy, .int wl_, .int (nI ps), .int sta, .int hp, .int fd, .int pe, .int at_, .int go, .int tu, .int wa, .int ce, .int wt, .int un, .int fu, .int dr]))] H := hP
        have hD : va_D A [(h0, .inr (11, [.ref tp, .ref rd, .ref se, .ref ba, .ref of, .ref pl, .ref sr, .ref sc, .int wk])), (ba, .inl (E.2.1 4, 6, .inr (.inr (.inr (.inr fb))))), (bo_, .inr (0, [.ref sp, .ref pa, .int lt, .ref ru, .ref co, .ref tr])), (tr, .inr (4, [.ref wy, .int wl_, .int (nI ps), .int sta, .int hp, .int fd, .int pe, .int at_, .int go, .int tu, .int wa, .int ce, .int wt, .int un, .int fu, .int dr]))] := hD
        refine lv_if_eq (tgt := 52) hx hb dX11_pay_37 (by decide) (fun c_18 => ?_) (fun c_18 => ?_)
        · have b_19 : inR less 0 1000 = false := bz hw_17 c_18
          refine lv_ldc (v := (-2000000000)) hx hb hown (hts (.constant RX11 182 (-2000000000)) (by first | exact List.mem_of_getElem? (i := 2) rfl | decide +kernel)) dX11_pay_52 ?_
          have hP9 := hP.sub (ws' := [(h0, .inr (11, [.ref tp, .ref rd, .ref se, .ref ba, .ref of, .ref pl, .ref sr, .ref sc, .int wk])), (ba, .inl (E.2.1 4, 6, .inr (.inr (.inr (.inr fb))))), (bo_, .inr (0, [.ref sp, .ref pa, .int lt, .ref ru, .ref co, .ref tr])), (tr, .inr (4, [.ref wy, .int wl_, .int (nI ps), .int sta, .int hp, .int fd, .int pe, .int at_, .int go, .int tu, .int wa, .int ce, .int wt, .int un, .int fu, .int dr]))]) [0, 1, 2, 3] rfl
          have hD9 := hD.sub (ws' := [(h0, .inr (11, [.ref tp, .ref rd, .ref se, .ref ba, .ref of, .ref pl, .ref sr, .ref sc, .int wk])), (ba, .inl (E.2.1 4, 6, .inr (.inr (.inr (.inr fb))))), (bo_, .inr (0, [.ref sp, .ref pa, .int lt, .ref ru, .ref co, .ref tr])), (tr, .inr (4, [.ref wy, .int wl_, .int (nI ps), .int sta, .int hp, .int fd, .int pe, .int at_, .int go, .int tu, .int wa, .int ce, .int wt, .int un, .int fu, .int dr]))]) [0, 1, 2, 3] (by decide) rfl
          exact W.iret (v := (-2000000000)) hx hb hr (fun t ht hW => ⟨⟨(-2000000000), (), rfl, trivial, by rw [ht]; exact hP9, hD9⟩, hS.F ht⟩) hS.2.2 dX11_pay_54
        · have b_20 : inR less 0 1000 = true := bn hw_17 c_18
          refine lv_iload hx hb dX11_pay_40 (lv_at hl 5 rfl) ?_
          refine lv_iconst (v := 0) hx hb dX11_pay_42 (by decide) ?_
          refine lv_sipush (v := 1000) hx hb dX11_pay_43 (by decide) ?_
          have hPc := hP.sub (ws' := []) [] rfl
          have hDc := hD.sub (ws' := []) [] (by decide) rfl
          have hFc := va_free (wc := []) hD hS hA [] rfl
          refine va_calli (va_runS (As := [.int more, .int 0, .int 1000]) (rest := []) ⟨hx, hb, hml, hown, hts⟩ (c_X11_within l E more 0 1000 H.size ) (va_cwS 3 hts gX11_pay_X11_within rfl rfl rfl hdS_X11_within ⟨Nat.le_of_ble_eq_true rfl, Nat.le_of_ble_eq_true rfl⟩) ⟨pcW_blind, (pcW_pre hPc hkn hDc hst hS hFc)⟩ rfl rfl hl.1 rfl (lv_room (Nat.le_of_ble_eq_true rfl)) dX11_pay_46 ⟨Nat.le_of_ble_eq_true rfl, Nat.le_of_ble_eq_true rfl⟩) hS (fun q _ h => hFc q h) hFc (fun r_21 u t H1 locs ht hvm hw_22 hB hz1 hk1 hS => ?_)
          obtain ⟨hP1, hD1⟩ := hB
          rw [ht] at hP1
          try dsimp only at hw_22
          obtain ⟨hP, hD⟩ := va_join (wr := [(h0, .inr (11, [.ref tp, .ref rd, .ref se, .ref ba, .ref of, .ref pl, .ref sr, .ref sc, .int wk])), (ba, .inl (E.2.1 4, 6, .inr (.inr (.inr (.inr fb))))), (bo_, .inr (0, [.ref sp, .ref pa, .int lt, .ref ru, .ref co, .ref tr])), (tr, .inr (4, [.ref wy, .int wl_, .int (nI ps), .int sta, .int hp, .int fd, .int pe, .int at_, .int go, .int tu, .int wa, .int ce, .int wt, .int un, .int fu, .int dr]))]) (w1 := []) hP hD [] [0, 1, 2, 3] rfl rfl (by decide) (by decide) hk1 hFc hP1 hD1
          generalize H1 = H at hP hS ⊢
          have hP : va_P E.1 vwCl [(h0, .inr (11, [.ref tp, .ref rd, .ref se, .ref ba, .ref of, .ref pl, .ref sr, .ref sc, .int wk])), (ba, .inl (E.2.1 4, 6, .inr (.inr (.inr (.inr fb))))), (bo_, .inr (0, [.ref sp, .ref pa, .int lt, .ref ru, .ref co, .ref tr])), (tr, .inr (4, [.ref wy, .int wl_, .int (nI ps), .int sta, .int hp, .int fd, .int pe, .int at_, .int go, .int tu, .int wa, .int ce, .int wt, .int un, .int fu, .int dr]))] H := hP
          have hD : va_D A [(h0, .inr (11, [.ref tp, .ref rd, .ref se, .ref ba, .ref of, .ref pl, .ref sr, .ref sc, .int wk])), (ba, .inl (E.2.1 4, 6, .inr (.inr (.inr (.inr fb))))), (bo_, .inr (0, [.ref sp, .ref pa, .int lt, .ref ru, .ref co, .ref tr])), (tr, .inr (4, [.ref wy, .int wl_, .int (nI ps), .int sta, .int hp, .int fd, .int pe, .int at_, .int go, .int tu, .int wa, .int ce, .int wt, .int un, .int fu, .int dr]))] := hD
          refine lv_if_ne (tgt := 55) hx hb dX11_pay_49 (by decide) (fun c_23 => ?_) (fun c_23 => ?_)
          · have b_24 : inR more 0 1000 = true := bn hw_22 c_23
            refine lv_aload_n hx hb dX11_pay_55 rfl (lv_at hl 0 rfl) ?_
            refine va_get (D := E.1) (ci := 11) (v := .ref ba) (C := RX11) (T := TX11) (N := 9) hx hb hts inX11 hown hK hP 0 rfl rfl 3 (by decide) fl34 (fun _ h9 => h9) rfl dX11_pay_56 ?_
            refine lv_iload_n hx hb dX11_pay_59 rfl (lv_at hl 1 rfl) ?_
            have hi_25 : vp_in b 6 := inR_in (by decide) b_5
            refine va_aldq hx hb hK hP 1 4 rfl rfl hi_25 dX11_pay_60 ?_
            rw [show va_rf (fb b.toNatClampNeg) = .ref bo_ from by rw [hfb b_5]; rfl]
            refine va_get (D := E.1) (ci := 0) (v := .ref tr) (C := RX0) (T := TX0) (N := 6) hx hb hts inX0 hown hK hP 2 rfl rfl 5 (by decide) fl144 (fun _ h9 => h9) rfl dX11_pay_61 ?_
            refine lv_astore (lv' := [(6, .ref tr), (0, .ref h0), (1, .int b), (2, .int kind), (3, .int sum), (4, .int less), (5, .int more)]) hx hb dX11_pay_64 hl (by decide) rfl (fun ls hl => ?_)
            refine lv_aload hx hb dX11_pay_66 (lv_at hl 0 rfl) ?_
            refine va_get (D := E.1) (ci := 4) (v := .int sta) (C := RX4) (T := TX4) (N := 16) hx hb hts inX4 hown hK hP 3 rfl rfl 3 (by decide) fl148 (fun _ h9 => h9) rfl dX11_pay_68 ?_
            refine lv_iconst (v := (-1)) hx hb dX11_pay_71 (by decide) ?_
            refine lv_icmp_ne (tgt := 78) hx hb dX11_pay_72 (by decide) (fun c_26 => ?_) (fun c_26 => ?_)
            · refine lv_iload_n hx hb dX11_pay_78 rfl (lv_at hl 3 rfl) ?_
              refine lv_if_ne (tgt := 90) hx hb dX11_pay_79 (by decide) (fun c_27 => ?_) (fun c_27 => ?_)
              · refine lv_aload hx hb dX11_pay_90 (lv_at hl 0 rfl) ?_
                have hPc := hP.sub (ws' := [(tr, .inr (4, [.ref wy, .int wl_, .int (nI ps), .int sta, .int hp, .int fd, .int pe, .int at_, .int go, .int tu, .int wa, .int ce, .int wt, .int un, .int fu, .int dr]))]) [3] rfl
                have hDc := hD.sub (ws' := [(tr, .inr (4, [.ref wy, .int wl_, .int (nI ps), .int sta, .int hp, .int fd, .int pe, .int at_, .int go, .int tu, .int wa, .int ce, .int wt, .int un, .int fu, .int dr]))]) [3] (by decide) rfl
                have hFc := va_free (wc := [(tr, .inr (4, [.ref wy, .int wl_, .int (nI ps), .int sta, .int hp, .int fd, .int pe, .int at_, .int go, .int tu, .int wa, .int ce, .int wt, .int un, .int fu, .int dr]))]) hD hS hA [3] rfl
                refine va_calli (va_runV (As := []) (rest := []) ⟨hx, hb, hml, hown, hts⟩ (c_X4_keptWhole l E tr wy ps wl_ sta hp fd pe at_ go tu wa ce wt un fu dr (fun _ => 0) H.size ) (cwV 0 hts gX11_pay_X4_keptWhole rfl rfl rfl hdV_X4_keptWhole ⟨Nat.le_of_ble_eq_true rfl, Nat.le_of_ble_eq_true rfl⟩) ⟨pcW_blind, va_recv hK hPc (ci := 4) (q0 := 0) rfl rfl, (pcW_pre hPc hkn hDc hst hS hFc)⟩ rfl rfl hl.1 rfl (lv_room (Nat.le_of_ble_eq_true rfl)) dX11_pay_92 ⟨Nat.le_of_ble_eq_true rfl, Nat.le_of_ble_eq_true rfl⟩) hS (fun q _ h => hFc q h) hFc (fun r_28 u t H1 locs ht hvm hw_29 hB hz1 hk1 hS => ?_)
                obtain ⟨hP1, hD1⟩ := hB
                rw [ht] at hP1
                try dsimp only at hw_29
                obtain ⟨hP, hD⟩ := va_join (wr := [(h0, .inr (11, [.ref tp, .ref rd, .ref se, .ref ba, .ref of, .ref pl, .ref sr, .ref sc, .int wk])), (ba, .inl (E.2.1 4, 6, .inr (.inr (.inr (.inr fb))))), (bo_, .inr (0, [.ref sp, .ref pa, .int lt, .ref ru, .ref co, .ref tr]))]) (w1 := [(tr, .inr (4, [.ref wy, .int wl_, .int (nI ps), .int sta, .int hp, .int fd, .int pe, .int at_, .int go, .int tu, .int wa, .int ce, .int wt, .int un, .int fu, .int dr]))]) hP hD [3] [0, 1, 2] rfl rfl (by decide) (by decide) hk1 hFc hP1 hD1
                generalize H1 = H at hP hS ⊢
                have hP : va_P E.1 vwCl [(h0, .inr (11, [.ref tp, .ref rd, .ref se, .ref ba, .ref of, .ref pl, .ref sr, .ref sc, .int wk])), (ba, .inl (E.2.1 4, 6, .inr (.inr (.inr (.inr fb))))), (bo_, .inr (0, [.ref sp, .ref pa, .int lt, .ref ru, .ref co, .ref tr])), (tr, .inr (4, [.ref wy, .int wl_, .int (nI ps), .int sta, .int hp, .int fd, .int pe, .int at_, .int go, .int tu, .int wa, .int ce, .int wt, .int un, .int fu, .int dr]))] H := hP
                have hD : va_D A [(h0, .inr (11, [.ref tp, .ref rd, .ref se, .ref ba, .ref of, .ref pl, .ref sr, .ref sc, .int wk])), (ba, .inl (E.2.1 4, 6, .inr (.inr (.inr (.inr fb))))), (bo_, .inr (0, [.ref sp, .ref pa, .int lt, .ref ru, .ref co, .ref tr])), (tr, .inr (4, [.ref wy, .int wl_, .int (nI ps), .int sta, .int hp, .int fd, .int pe, .int at_, .int go, .int tu, .int wa, .int ce, .int wt, .int un, .int fu, .int dr]))] := hD
                refine lv_if_eq (tgt := 102) hx hb dX11_pay_95 (by decide) (fun c_30 => ?_) (fun c_30 => ?_)
                · refine lv_iconst (v := 0) hx hb dX11_pay_102 (by decide) ?_
                  refine lv_istore (lv' := [(7, .int 0), (6, .ref tr), (0, .ref h0), (1, .int b), (2, .int kind), (3, .int sum), (4, .int less), (5, .int more)]) hx hb dX11_pay_103 hl (by decide) rfl (fun ls hl => ?_)
                  refine lv_iload hx hb dX11_pay_105 (lv_at hl 0 rfl) ?_
                  refine lv_iload_n hx hb dX11_pay_107 rfl (lv_at hl 5 rfl) ?_
                  refine lv_imul hx hb dX11_pay_108 ?_
                  refine lv_topi (fun x_31 ex_31 => ?_)
                  refine lv_iload hx hb dX11_pay_109 (lv_at hl 6 rfl) ?_
                  refine lv_aload hx hb dX11_pay_111 (lv_at hl 1 rfl) ?_
                  refine va_get (D := E.1) (ci := 4) (v := .int un) (C := RX4) (T := TX4) (N := 16) hx hb hts inX4 hown hK hP 3 rfl rfl 13 (by decide) fl191 (fun _ h9 => h9) rfl dX11_pay_113 ?_
                  refine lv_imul hx hb dX11_pay_116 ?_
                  refine lv_topi (fun x_32 ex_32 => ?_)
                  refine lv_isub hx hb dX11_pay_117 ?_
                  refine lv_topi (fun x_33 ex_33 => ?_)
                  refine lv_iload hx hb dX11_pay_118 (lv_at hl 7 rfl) ?_
                  refine lv_aload hx hb dX11_pay_120 (lv_at hl 1 rfl) ?_
                  refine va_get (D := E.1) (ci := 4) (v := .int dr) (C := RX4) (T := TX4) (N := 16) hx hb hts inX4 hown hK hP 3 rfl rfl 15 (by decide) fl194 (fun _ h9 => h9) rfl dX11_pay_122 ?_
                  refine lv_imul hx hb dX11_pay_125 ?_
                  refine lv_topi (fun x_34 ex_34 => ?_)
                  refine lv_iadd hx hb dX11_pay_126 ?_
                  refine lv_topi (fun x_35 ex_35 => ?_)
                  have hP9 := hP.sub (ws' := [(h0, .inr (11, [.ref tp, .ref rd, .ref se, .ref ba, .ref of, .ref pl, .ref sr, .ref sc, .int wk])), (ba, .inl (E.2.1 4, 6, .inr (.inr (.inr (.inr fb))))), (bo_, .inr (0, [.ref sp, .ref pa, .int lt, .ref ru, .ref co, .ref tr])), (tr, .inr (4, [.ref wy, .int wl_, .int (nI ps), .int sta, .int hp, .int fd, .int pe, .int at_, .int go, .int tu, .int wa, .int ce, .int wt, .int un, .int fu, .int dr]))]) [0, 1, 2, 3] rfl
                  have hD9 := hD.sub (ws' := [(h0, .inr (11, [.ref tp, .ref rd, .ref se, .ref ba, .ref of, .ref pl, .ref sr, .ref sc, .int wk])), (ba, .inl (E.2.1 4, 6, .inr (.inr (.inr (.inr fb))))), (bo_, .inr (0, [.ref sp, .ref pa, .int lt, .ref ru, .ref co, .ref tr])), (tr, .inr (4, [.ref wy, .int wl_, .int (nI ps), .int sta, .int hp, .int fd, .int pe, .int at_, .int go, .int tu, .int wa, .int ce, .int wt, .int un, .int fu, .int dr]))]) [0, 1, 2, 3] (by decide) rfl
                  exact W.iret (v := x_35) hx hb hr (fun t ht hW => ⟨⟨x_35, (), rfl, trivial, by rw [ht]; exact hP9, hD9⟩, hS.F ht⟩) hS.2.2 dX11_pay_127
                · refine lv_iconst (v := 1) hx hb dX11_pay_98 (by decide) ?_
                  refine lv_goto (tgt := 103) hx hb dX11_pay_99 (by decide) ?_
                  refine lv_istore (lv' := [(7, .int 1), (6, .ref tr), (0, .ref h0), (1, .int b), (2, .int kind), (3, .int sum), (4, .int less), (5, .int more)]) hx hb dX11_pay_103 hl (by decide) rfl (fun ls hl => ?_)
                  refine lv_iload hx hb dX11_pay_105 (lv_at hl 0 rfl) ?_
                  refine lv_iload_n hx hb dX11_pay_107 rfl (lv_at hl 5 rfl) ?_
                  refine lv_imul hx hb dX11_pay_108 ?_
                  refine lv_topi (fun x_36 ex_36 => ?_)
                  refine lv_iload hx hb dX11_pay_109 (lv_at hl 6 rfl) ?_
                  refine lv_aload hx hb dX11_pay_111 (lv_at hl 1 rfl) ?_
                  refine va_get (D := E.1) (ci := 4) (v := .int un) (C := RX4) (T := TX4) (N := 16) hx hb hts inX4 hown hK hP 3 rfl rfl 13 (by decide) fl191 (fun _ h9 => h9) rfl dX11_pay_113 ?_
                  refine lv_imul hx hb dX11_pay_116 ?_
                  refine lv_topi (fun x_37 ex_37 => ?_)
                  refine lv_isub hx hb dX11_pay_117 ?_
                  refine lv_topi (fun x_38 ex_38 => ?_)
                  refine lv_iload hx hb dX11_pay_118 (lv_at hl 7 rfl) ?_
                  refine lv_aload hx hb dX11_pay_120 (lv_at hl 1 rfl) ?_
                  refine va_get (D := E.1) (ci := 4) (v := .int dr) (C := RX4) (T := TX4) (N := 16) hx hb hts inX4 hown hK hP 3 rfl rfl 15 (by decide) fl194 (fun _ h9 => h9) rfl dX11_pay_122 ?_
                  refine lv_imul hx hb dX11_pay_125 ?_
                  refine lv_topi (fun x_39 ex_39 => ?_)
                  refine lv_iadd hx hb dX11_pay_126 ?_
                  refine lv_topi (fun x_40 ex_40 => ?_)
                  have hP9 := hP.sub (ws' := [(h0, .inr (11, [.ref tp, .ref rd, .ref se, .ref ba, .ref of, .ref pl, .ref sr, .ref sc, .int wk])), (ba, .inl (E.2.1 4, 6, .inr (.inr (.inr (.inr fb))))), (bo_, .inr (0, [.ref sp, .ref pa, .int lt, .ref ru, .ref co, .ref tr])), (tr, .inr (4, [.ref wy, .int wl_, .int (nI ps), .int sta, .int hp, .int fd, .int pe, .int at_, .int go, .int tu, .int wa, .int ce, .int wt, .int un, .int fu, .int dr]))]) [0, 1, 2, 3] rfl
                  have hD9 := hD.sub (ws' := [(h0, .inr (11, [.ref tp, .ref rd, .ref se, .ref ba, .ref of, .ref pl, .ref sr, .ref sc, .int wk])), (ba, .inl (E.2.1 4, 6, .inr (.inr (.inr (.inr fb))))), (bo_, .inr (0, [.ref sp, .ref pa, .int lt, .ref ru, .ref co, .ref tr])), (tr, .inr (4, [.ref wy, .int wl_, .int (nI ps), .int sta, .int hp, .int fd, .int pe, .int at_, .int go, .int tu, .int wa, .int ce, .int wt, .int un, .int fu, .int dr]))]) [0, 1, 2, 3] (by decide) rfl
                  exact W.iret (v := x_40) hx hb hr (fun t ht hW => ⟨⟨x_40, (), rfl, trivial, by rw [ht]; exact hP9, hD9⟩, hS.F ht⟩) hS.2.2 dX11_pay_127
              · refine lv_aload hx hb dX11_pay_82 (lv_at hl 0 rfl) ?_
                have hPc := hP.sub (ws' := [(tr, .inr (4, [.ref wy, .int wl_, .int (nI ps), .int sta, .int hp, .int fd, .int pe, .int at_, .int go, .int tu, .int wa, .int ce, .int wt, .int un, .int fu, .int dr]))]) [3] rfl
                have hDc := hD.sub (ws' := [(tr, .inr (4, [.ref wy, .int wl_, .int (nI ps), .int sta, .int hp, .int fd, .int pe, .int at_, .int go, .int tu, .int wa, .int ce, .int wt, .int un, .int fu, .int dr]))]) [3] (by decide) rfl
                have hFc := va_free (wc := [(tr, .inr (4, [.ref wy, .int wl_, .int (nI ps), .int sta, .int hp, .int fd, .int pe, .int at_, .int go, .int tu, .int wa, .int ce, .int wt, .int un, .int fu, .int dr]))]) hD hS hA [3] rfl
                refine va_calli (va_runV (As := []) (rest := []) ⟨hx, hb, hml, hown, hts⟩ (c_X4_begunDays l E tr wy ps wl_ sta hp fd pe at_ go tu wa ce wt un fu dr (fun _ => 0) H.size ) (cwV 0 hts gX11_pay_X4_begunDays rfl rfl rfl hdV_X4_begunDays ⟨Nat.le_of_ble_eq_true rfl, Nat.le_of_ble_eq_true rfl⟩) ⟨pcW_blind, va_recv hK hPc (ci := 4) (q0 := 0) rfl rfl, (pcW_pre hPc hkn hDc hst hS hFc)⟩ rfl rfl hl.1 rfl (lv_room (Nat.le_of_ble_eq_true rfl)) dX11_pay_84 ⟨Nat.le_of_ble_eq_true rfl, Nat.le_of_ble_eq_true rfl⟩) hS (fun q _ h => hFc q h) hFc (fun r_41 u t H1 locs ht hvm hw_42 hB hz1 hk1 hS => ?_)
                obtain ⟨hP1, hD1⟩ := hB
                rw [ht] at hP1
                try dsimp only at hw_42
                obtain ⟨hP, hD⟩ := va_join (wr := [(h0, .inr (11, [.ref tp, .ref rd, .ref se, .ref ba, .ref of, .ref pl, .ref sr, .ref sc, .int wk])), (ba, .inl (E.2.1 4, 6, .inr (.inr (.inr (.inr fb))))), (bo_, .inr (0, [.ref sp, .ref pa, .int lt, .ref ru, .ref co, .ref tr]))]) (w1 := [(tr, .inr (4, [.ref wy, .int wl_, .int (nI ps), .int sta, .int hp, .int fd, .int pe, .int at_, .int go, .int tu, .int wa, .int ce, .int wt, .int un, .int fu, .int dr]))]) hP hD [3] [0, 1, 2] rfl rfl (by decide) (by decide) hk1 hFc hP1 hD1
                generalize H1 = H at hP hS ⊢
                have hP : va_P E.1 vwCl [(h0, .inr (11, [.ref tp, .ref rd, .ref se, .ref ba, .ref of, .ref pl, .ref sr, .ref sc, .int wk])), (ba, .inl (E.2.1 4, 6, .inr (.inr (.inr (.inr fb))))), (bo_, .inr (0, [.ref sp, .ref pa, .int lt, .ref ru, .ref co, .ref tr])), (tr, .inr (4, [.ref wy, .int wl_, .int (nI ps), .int sta, .int hp, .int fd, .int pe, .int at_, .int go, .int tu, .int wa, .int ce, .int wt, .int un, .int fu, .int dr]))] H := hP
                have hD : va_D A [(h0, .inr (11, [.ref tp, .ref rd, .ref se, .ref ba, .ref of, .ref pl, .ref sr, .ref sc, .int wk])), (ba, .inl (E.2.1 4, 6, .inr (.inr (.inr (.inr fb))))), (bo_, .inr (0, [.ref sp, .ref pa, .int lt, .ref ru, .ref co, .ref tr])), (tr, .inr (4, [.ref wy, .int wl_, .int (nI ps), .int sta, .int hp, .int fd, .int pe, .int at_, .int go, .int tu, .int wa, .int ce, .int wt, .int un, .int fu, .int dr]))] := hD
                refine lv_goto (tgt := 103) hx hb dX11_pay_87 (by decide) ?_
                refine lv_istore (lv' := [(7, .int r_41), (6, .ref tr), (0, .ref h0), (1, .int b), (2, .int kind), (3, .int sum), (4, .int less), (5, .int more)]) hx hb dX11_pay_103 hl (by decide) rfl (fun ls hl => ?_)
                refine lv_iload hx hb dX11_pay_105 (lv_at hl 0 rfl) ?_
                refine lv_iload_n hx hb dX11_pay_107 rfl (lv_at hl 5 rfl) ?_
                refine lv_imul hx hb dX11_pay_108 ?_
                refine lv_topi (fun x_43 ex_43 => ?_)
                refine lv_iload hx hb dX11_pay_109 (lv_at hl 6 rfl) ?_
                refine lv_aload hx hb dX11_pay_111 (lv_at hl 1 rfl) ?_
                refine va_get (D := E.1) (ci := 4) (v := .int un) (C := RX4) (T := TX4) (N := 16) hx hb hts inX4 hown hK hP 3 rfl rfl 13 (by decide) fl191 (fun _ h9 => h9) rfl dX11_pay_113 ?_
                refine lv_imul hx hb dX11_pay_116 ?_
                refine lv_topi (fun x_44 ex_44 => ?_)
                refine lv_isub hx hb dX11_pay_117 ?_
                refine lv_topi (fun x_45 ex_45 => ?_)
                refine lv_iload hx hb dX11_pay_118 (lv_at hl 7 rfl) ?_
                refine lv_aload hx hb dX11_pay_120 (lv_at hl 1 rfl) ?_
                refine va_get (D := E.1) (ci := 4) (v := .int dr) (C := RX4) (T := TX4) (N := 16) hx hb hts inX4 hown hK hP 3 rfl rfl 15 (by decide) fl194 (fun _ h9 => h9) rfl dX11_pay_122 ?_
                refine lv_imul hx hb dX11_pay_125 ?_
                refine lv_topi (fun x_46 ex_46 => ?_)
                refine lv_iadd hx hb dX11_pay_126 ?_
                refine lv_topi (fun x_47 ex_47 => ?_)
                have hP9 := hP.sub (ws' := [(h0, .inr (11, [.ref tp, .ref rd, .ref se, .ref ba, .ref of, .ref pl, .ref sr, .ref sc, .int wk])), (ba, .inl (E.2.1 4, 6, .inr (.inr (.inr (.inr fb))))), (bo_, .inr (0, [.ref sp, .ref pa, .int lt, .ref ru, .ref co, .ref tr])), (tr, .inr (4, [.ref wy, .int wl_, .int (nI ps), .int sta, .int hp, .int fd, .int pe, .int at_, .int go, .int tu, .int wa, .int ce, .int wt, .int un, .int fu, .int dr]))]) [0, 1, 2, 3] rfl
                have hD9 := hD.sub (ws' := [(h0, .inr (11, [.ref tp, .ref rd, .ref se, .ref ba, .ref of, .ref pl, .ref sr, .ref sc, .int wk])), (ba, .inl (E.2.1 4, 6, .inr (.inr (.inr (.inr fb))))), (bo_, .inr (0, [.ref sp, .ref pa, .int lt, .ref ru, .ref co, .ref tr])), (tr, .inr (4, [.ref wy, .int wl_, .int (nI ps), .int sta, .int hp, .int fd, .int pe, .int at_, .int go, .int tu, .int wa, .int ce, .int wt, .int un, .int fu, .int dr]))]) [0, 1, 2, 3] (by decide) rfl
                exact W.iret (v := x_47) hx hb hr (fun t ht hW => ⟨⟨x_47, (), rfl, trivial, by rw [ht]; exact hP9, hD9⟩, hS.F ht⟩) hS.2.2 dX11_pay_127
            · refine lv_ldc (v := (-2000000001)) hx hb hown (hts (.constant RX11 183 (-2000000001)) (by first | exact List.mem_of_getElem? (i := 6) rfl | decide +kernel)) dX11_pay_75 ?_
              have hP9 := hP.sub (ws' := [(h0, .inr (11, [.ref tp, .ref rd, .ref se, .ref ba, .ref of, .ref pl, .ref sr, .ref sc, .int wk])), (ba, .inl (E.2.1 4, 6, .inr (.inr (.inr (.inr fb))))), (bo_, .inr (0, [.ref sp, .ref pa, .int lt, .ref ru, .ref co, .ref tr])), (tr, .inr (4, [.ref wy, .int wl_, .int (nI ps), .int sta, .int hp, .int fd, .int pe, .int at_, .int go, .int tu, .int wa, .int ce, .int wt, .int un, .int fu, .int dr]))]) [0, 1, 2, 3] rfl
              have hD9 := hD.sub (ws' := [(h0, .inr (11, [.ref tp, .ref rd, .ref se, .ref ba, .ref of, .ref pl, .ref sr, .ref sc, .int wk])), (ba, .inl (E.2.1 4, 6, .inr (.inr (.inr (.inr fb))))), (bo_, .inr (0, [.ref sp, .ref pa, .int lt, .ref ru, .ref co, .ref tr])), (tr, .inr (4, [.ref wy, .int wl_, .int (nI ps), .int sta, .int hp, .int fd, .int pe, .int at_, .int go, .int tu, .int wa, .int ce, .int wt, .int un, .int fu, .int dr]))]) [0, 1, 2, 3] (by decide) rfl
              exact W.iret (v := (-2000000001)) hx hb hr (fun t ht hW => ⟨⟨(-2000000001), (), rfl, trivial, by rw [ht]; exact hP9, hD9⟩, hS.F ht⟩) hS.2.2 dX11_pay_77
          · have b_48 : inR more 0 1000 = false := bz hw_22 c_23
            refine lv_ldc (v := (-2000000000)) hx hb hown (hts (.constant RX11 182 (-2000000000)) (by first | exact List.mem_of_getElem? (i := 2) rfl | decide +kernel)) dX11_pay_52 ?_
            have hP9 := hP.sub (ws' := [(h0, .inr (11, [.ref tp, .ref rd, .ref se, .ref ba, .ref of, .ref pl, .ref sr, .ref sc, .int wk])), (ba, .inl (E.2.1 4, 6, .inr (.inr (.inr (.inr fb))))), (bo_, .inr (0, [.ref sp, .ref pa, .int lt, .ref ru, .ref co, .ref tr])), (tr, .inr (4, [.ref wy, .int wl_, .int (nI ps), .int sta, .int hp, .int fd, .int pe, .int at_, .int go, .int tu, .int wa, .int ce, .int wt, .int un, .int fu, .int dr]))]) [0, 1, 2, 3] rfl
            have hD9 := hD.sub (ws' := [(h0, .inr (11, [.ref tp, .ref rd, .ref se, .ref ba, .ref of, .ref pl, .ref sr, .ref sc, .int wk])), (ba, .inl (E.2.1 4, 6, .inr (.inr (.inr (.inr fb))))), (bo_, .inr (0, [.ref sp, .ref pa, .int lt, .ref ru, .ref co, .ref tr])), (tr, .inr (4, [.ref wy, .int wl_, .int (nI ps), .int sta, .int hp, .int fd, .int pe, .int at_, .int go, .int tu, .int wa, .int ce, .int wt, .int un, .int fu, .int dr]))]) [0, 1, 2, 3] (by decide) rfl
            exact W.iret (v := (-2000000000)) hx hb hr (fun t ht hW => ⟨⟨(-2000000000), (), rfl, trivial, by rw [ht]; exact hP9, hD9⟩, hS.F ht⟩) hS.2.2 dX11_pay_54
