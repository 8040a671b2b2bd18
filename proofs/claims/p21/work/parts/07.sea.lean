set_option maxHeartbeats 4000000 in
set_option maxRecDepth 100000 in
theorem c_X1_between (l : Launch) (E : vE) (x : Int32) (y : Int32) (z : Int32) (sz : Nat) : Met l yX1_between wsX1_between ({ frames := 1, cells := 0, slots := 0, locals := 24 }) (pcW E [.int x, .int y, .int z] sz []) (va_Qi (fun (r : Int32) (_ : Unit) => r = 0 ∨ r = 1) (fun (_ : Unit) (t : State) => wB E (va_A [] sz) [] t) (va_A [] sz)) 0 0 (va_A [] sz) := by
  refine Met.ofW (cc := cX1_between) (maxL := 3) (ret := (some .boolean)) (by decide) rfl ?_
  intro p e s m args below meth c s₁ B hml hv
  obtain ⟨rfl, hsz, hP, hkn, hD0, hst⟩ := hv
  have hx := B.exec
  have hb := B.bytes
  have hr := B.returns
  have hts := atoms_spec (ws := wsX1_between) B.pre
  have hown : s.vm.findClass RX1 = some m.cls := findClass_of_methodNamed B.named
  have hlocks := B.notSynchronized
  subst hsz
  have hD := hD0.self (sz := s.heap.size)
  have hK := hkn.1
  have hAO := hkn.2.2.1
  generalize hAe : va_A [] s.heap.size = A at hD hst ⊢
  have hA : ∀ q : Nat, s.heap.size ≤ q → A q := fun q h => by rw [← hAe]; exact Or.inr h
  have hS : va_S A s.heap s.heap [] := va_S.rf
  have hP : va_P E.1 vwCl [] s.heap := hP
  have hl := lv_entry ([.int x, .int y, .int z]) (n := 3) (Nat.le_of_ble_eq_true rfl)
  rw [lg_entry_eq]
  generalize (lg_sl ([.int x, .int y, .int z]) ++ List.replicate (3 - (lg_sl ([.int x, .int y, .int z])).length) Slot.unset).toArray = ls at hl ⊢
  have hl : lv_has ls 3 [(0, .int x), (1, .int y), (2, .int z)] := hl
  refine lv_iload_n hx hb dX1_between_0 rfl (lv_at hl 0 rfl) ?_
  refine lv_iload_n hx hb dX1_between_1 rfl (lv_at hl 1 rfl) ?_
  refine lv_iload_n hx hb dX1_between_2 rfl (lv_at hl 2 rfl) ?_
  refine va_mmin hx hb (by rw [hml]; exact hl.1.symm) hown (hts (.methodLink RX1 45 Lib.Math.min.name) (by first | exact List.mem_of_getElem? (i := 1) rfl | decide +kernel)) (hts (.static Lib.Math.min.name) (by first | exact List.mem_of_getElem? (i := 2) rfl | decide +kernel)) (hts (.initialized "java/lang/Math") (by first | exact List.mem_of_getElem? (i := 3) rfl | decide +kernel)) (hts (.code Lib.Math.min.name Lib.Math.min.code 2 (some .int)) (by first | exact List.mem_of_getElem? (i := 4) rfl | decide +kernel)) (Nat.le_of_ble_eq_true rfl) (Nat.le_of_ble_eq_true rfl) (Nat.le_of_ble_eq_true rfl) (Nat.le_of_ble_eq_true rfl) dX1_between_3 ?_
  refine lv_topi (fun x_1 ex_1 => ?_)
  refine lv_iload_n hx hb dX1_between_6 rfl (lv_at hl 1 rfl) ?_
  refine lv_iload_n hx hb dX1_between_7 rfl (lv_at hl 2 rfl) ?_
  refine va_mmax hx hb (by rw [hml]; exact hl.1.symm) hown (hts (.methodLink RX1 51 Lib.Math.max.name) (by first | exact List.mem_of_getElem? (i := 5) rfl | decide +kernel)) (hts (.static Lib.Math.max.name) (by first | exact List.mem_of_getElem? (i := 6) rfl | decide +kernel)) (hts (.initialized "java/lang/Math") (by first | exact List.mem_of_getElem? (i := 3) rfl | decide +kernel)) (hts (.code Lib.Math.max.name Lib.Math.max.code 2 (some .int)) (by first | exact List.mem_of_getElem? (i := 7) rfl | decide +kernel)) (Nat.le_of_ble_eq_true rfl) (Nat.le_of_ble_eq_true rfl) (Nat.le_of_ble_eq_true rfl) (Nat.le_of_ble_eq_true rfl) dX1_between_8 ?_
  refine lv_topi (fun x_2 ex_2 => ?_)
  have hPc := hP.sub (ws' := []) [] rfl
  have hDc := hD.sub (ws' := []) [] (by decide) rfl
  have hFc := va_free (wc := []) hD hS hA [] rfl
  refine va_calli (va_runSN (As := [.int x, .int x_1, .int x_2]) (rest := []) ⟨hx, hb, hml, hown, hts⟩ (c_X11_within l E x x_1 x_2 s.heap.size ) ⟨va_cnB 3 hts gX1_between_X11_within_n54 rfl rfl rfl (hkn.2.1 (.methodLinkNest RX1 54 yX11_within "BoatsHome") (by decide +kernel)) (hts (.initialized RX11) (by first | exact List.mem_of_getElem? (i := 9) rfl | decide +kernel)) (by decide +kernel) ⟨Nat.le_of_ble_eq_true rfl, Nat.le_of_ble_eq_true rfl⟩, hts (.static yX11_within) (by first | exact List.mem_of_getElem? (i := 8) rfl | decide +kernel), trivial⟩ ⟨pcW_blind, (pcW_pre hPc hkn hDc hst hS hFc)⟩ rfl rfl hl.1 rfl (lv_room (Nat.le_of_ble_eq_true rfl)) dX1_between_11 ⟨Nat.le_of_ble_eq_true rfl, Nat.le_of_ble_eq_true rfl⟩) hS (fun q _ h => hFc q h) hFc (fun r_3 u t H1 locs ht hvm hw_4 hB hz1 hk1 hS => ?_)
  obtain ⟨hP1, hD1⟩ := hB
  rw [ht] at hP1
  try dsimp only at hw_4
  obtain ⟨hP, hD⟩ := va_join (wr := []) (w1 := []) hP hD [] [] rfl rfl (by decide) (by decide) hk1 hFc hP1 hD1
  generalize H1 = H at hP hS ⊢
  have hP : va_P E.1 vwCl [] H := hP
  have hD : va_D A [] := hD
  have hP9 := hP.sub (ws' := []) [] rfl
  have hD9 := hD.sub (ws' := []) [] (by decide) rfl
  exact W.zret (v := r_3) hx hb hr (by rw [hw_4]; exact bI_z _) (fun t ht hW => ⟨⟨r_3, (), rfl, (b01_of hw_4), by rw [ht]; exact hP9, hD9⟩, hS.F ht⟩) hS.2.2 dX1_between_14
set_option maxHeartbeats 4000000 in
set_option maxRecDepth 100000 in
theorem c_X1_inSeason (l : Launch) (E : vE) (x : Int32) (y : Int32) (z : Int32) (sz : Nat) : Met l yX1_inSeason wsX1_inSeason ({ frames := 1, cells := 0, slots := 0, locals := 22 }) (pcW E [.int x, .int y, .int z] sz []) (va_Qi (fun (r : Int32) (_ : Unit) => r = 0 ∨ r = 1) (fun (_ : Unit) (t : State) => wB E (va_A [] sz) [] t) (va_A [] sz)) 0 0 (va_A [] sz) := by
  refine Met.ofW (cc := cX1_inSeason) (maxL := 3) (ret := (some .boolean)) (by decide) rfl ?_
  intro p e s m args below meth c s₁ B hml hv
  obtain ⟨rfl, hsz, hP, hkn, hD0, hst⟩ := hv
  have hx := B.exec
  have hb := B.bytes
  have hr := B.returns
  have hts := atoms_spec (ws := wsX1_inSeason) B.pre
  have hown : s.vm.findClass RX1 = some m.cls := findClass_of_methodNamed B.named
  have hlocks := B.notSynchronized
  subst hsz
  have hD := hD0.self (sz := s.heap.size)
  have hK := hkn.1
  have hAO := hkn.2.2.1
  generalize hAe : va_A [] s.heap.size = A at hD hst ⊢
  have hA : ∀ q : Nat, s.heap.size ≤ q → A q := fun q h => by rw [← hAe]; exact Or.inr h
  have hS : va_S A s.heap s.heap [] := va_S.rf
  have hP : va_P E.1 vwCl [] s.heap := hP
  have hl := lv_entry ([.int x, .int y, .int z]) (n := 3) (Nat.le_of_ble_eq_true rfl)
  rw [lg_entry_eq]
  generalize (lg_sl ([.int x, .int y, .int z]) ++ List.replicate (3 - (lg_sl ([.int x, .int y, .int z])).length) Slot.unset).toArray = ls at hl ⊢
  have hl : lv_has ls 3 [(0, .int x), (1, .int y), (2, .int z)] := hl
  refine lv_iload_n hx hb dX1_inSeason_0 rfl (lv_at hl 2 rfl) ?_
  refine lv_iload_n hx hb dX1_inSeason_1 rfl (lv_at hl 1 rfl) ?_
  refine lv_icmp_ge (tgt := 23) hx hb dX1_inSeason_2 (by decide) (fun c_1 => ?_) (fun c_1 => ?_)
  · refine lv_iload_n hx hb dX1_inSeason_23 rfl (lv_at hl 0 rfl) ?_
    refine lv_iload_n hx hb dX1_inSeason_24 rfl (lv_at hl 1 rfl) ?_
    refine lv_iload_n hx hb dX1_inSeason_25 rfl (lv_at hl 2 rfl) ?_
    have hPc := hP.sub (ws' := []) [] rfl
    have hDc := hD.sub (ws' := []) [] (by decide) rfl
    have hFc := va_free (wc := []) hD hS hA [] rfl
    refine va_calli (va_runSN (As := [.int x, .int y, .int z]) (rest := []) ⟨hx, hb, hml, hown, hts⟩ (c_X11_within l E x y z s.heap.size ) ⟨va_cnB 3 hts gX1_inSeason_X11_within_n54 rfl rfl rfl (hkn.2.1 (.methodLinkNest RX1 54 yX11_within "BoatsHome") (by decide +kernel)) (hts (.initialized RX11) (by first | exact List.mem_of_getElem? (i := 2) rfl | decide +kernel)) (by decide +kernel) ⟨Nat.le_of_ble_eq_true rfl, Nat.le_of_ble_eq_true rfl⟩, hts (.static yX11_within) (by first | exact List.mem_of_getElem? (i := 1) rfl | decide +kernel), trivial⟩ ⟨pcW_blind, (pcW_pre hPc hkn hDc hst hS hFc)⟩ rfl rfl hl.1 rfl (lv_room (Nat.le_of_ble_eq_true rfl)) dX1_inSeason_26 ⟨Nat.le_of_ble_eq_true rfl, Nat.le_of_ble_eq_true rfl⟩) hS (fun q _ h => hFc q h) hFc (fun r_2 u t H1 locs ht hvm hw_3 hB hz1 hk1 hS => ?_)
    obtain ⟨hP1, hD1⟩ := hB
    rw [ht] at hP1
    try dsimp only at hw_3
    obtain ⟨hP, hD⟩ := va_join (wr := []) (w1 := []) hP hD [] [] rfl rfl (by decide) (by decide) hk1 hFc hP1 hD1
    generalize H1 = H at hP hS ⊢
    have hP : va_P E.1 vwCl [] H := hP
    have hD : va_D A [] := hD
    have hP9 := hP.sub (ws' := []) [] rfl
    have hD9 := hD.sub (ws' := []) [] (by decide) rfl
    exact W.zret (v := r_2) hx hb hr (by rw [hw_3]; exact bI_z _) (fun t ht hW => ⟨⟨r_2, (), rfl, (b01_of hw_3), by rw [ht]; exact hP9, hD9⟩, hS.F ht⟩) hS.2.2 dX1_inSeason_29
  · refine lv_iload_n hx hb dX1_inSeason_5 rfl (lv_at hl 0 rfl) ?_
    refine lv_iload_n hx hb dX1_inSeason_6 rfl (lv_at hl 1 rfl) ?_
    refine lv_icmp_ge (tgt := 15) hx hb dX1_inSeason_7 (by decide) (fun c_4 => ?_) (fun c_4 => ?_)
    · refine lv_iconst (v := 1) hx hb dX1_inSeason_15 (by decide) ?_
      refine lv_goto (tgt := 29) hx hb dX1_inSeason_16 (by decide) ?_
      have hP9 := hP.sub (ws' := []) [] rfl
      have hD9 := hD.sub (ws' := []) [] (by decide) rfl
      exact W.zret (v := 1) hx hb hr (by decide) (fun t ht hW => ⟨⟨1, (), rfl, Or.inr rfl, by rw [ht]; exact hP9, hD9⟩, hS.F ht⟩) hS.2.2 dX1_inSeason_29
    · refine lv_iload_n hx hb dX1_inSeason_10 rfl (lv_at hl 0 rfl) ?_
      refine lv_iload_n hx hb dX1_inSeason_11 rfl (lv_at hl 2 rfl) ?_
      refine lv_icmp_gt (tgt := 19) hx hb dX1_inSeason_12 (by decide) (fun c_5 => ?_) (fun c_5 => ?_)
      · refine lv_iconst (v := 0) hx hb dX1_inSeason_19 (by decide) ?_
        refine lv_goto (tgt := 29) hx hb dX1_inSeason_20 (by decide) ?_
        have hP9 := hP.sub (ws' := []) [] rfl
        have hD9 := hD.sub (ws' := []) [] (by decide) rfl
        exact W.zret (v := 0) hx hb hr (by decide) (fun t ht hW => ⟨⟨0, (), rfl, Or.inl rfl, by rw [ht]; exact hP9, hD9⟩, hS.F ht⟩) hS.2.2 dX1_inSeason_29
      · refine lv_iconst (v := 1) hx hb dX1_inSeason_15 (by decide) ?_
        refine lv_goto (tgt := 29) hx hb dX1_inSeason_16 (by decide) ?_
        have hP9 := hP.sub (ws' := []) [] rfl
        have hD9 := hD.sub (ws' := []) [] (by decide) rfl
        exact W.zret (v := 1) hx hb hr (by decide) (fun t ht hW => ⟨⟨1, (), rfl, Or.inr rfl, by rw [ht]; exact hP9, hD9⟩, hS.F ht⟩) hS.2.2 dX1_inSeason_29
set_option maxHeartbeats 4000000 in
set_option maxRecDepth 100000 in
theorem c_X1_boxHolds (l : Launch) (E : vE) (h0 : Nat) (bx : Nat) (bb : Nat) (bc : Int32) (lc : Int32) (mf : Int32) (li : Int32) (pl : Int32) (da : Int32) (fx : Nat → Int32) (sz : Nat) (hbb : bb + 5 < 72) : Met l yX1_boxHolds wsX1_boxHolds ({ frames := 2, cells := 0, slots := 0, locals := 46 }) (pcW E [.ref h0, .int (nI bb), .int pl, .int da] sz [(h0, .inr (1, [.ref bx, .int bc, .int lc, .int mf, .int li])), (bx, .inl (E.2.1 0, 72, .inl fx))]) (va_Qi (fun (r : Int32) (_ : Unit) => r = 0 ∨ r = 1) (fun (_ : Unit) (t : State) => wB E (va_A [(h0, .inr (1, [.ref bx, .int bc, .int lc, .int mf, .int li])), (bx, .inl (E.2.1 0, 72, .inl fx))] sz) [(h0, .inr (1, [.ref bx, .int bc, .int lc, .int mf, .int li])), (bx, .inl (E.2.1 0, 72, .inl fx))] t) (va_A [(h0, .inr (1, [.ref bx, .int bc, .int lc, .int mf, .int li])), (bx, .inl (E.2.1 0, 72, .inl fx))] sz)) 0 0 (va_A [(h0, .inr (1, [.ref bx, .int bc, .int lc, .int mf, .int li])), (bx, .inl (E.2.1 0, 72, .inl fx))] sz) := by
  refine Met.ofW (cc := cX1_boxHolds) (maxL := 4) (ret := (some .boolean)) (by decide) rfl ?_
  intro p e s m args below meth c s₁ B hml hv
  obtain ⟨rfl, hsz, hP, hkn, hD0, hst⟩ := hv
  have hx := B.exec
  have hb := B.bytes
  have hr := B.returns
  have hts := atoms_spec (ws := wsX1_boxHolds) B.pre
  have hown : s.vm.findClass RX1 = some m.cls := findClass_of_methodNamed B.named
  have hlocks := B.notSynchronized
  subst hsz
  have hD := hD0.self (sz := s.heap.size)
  have hK := hkn.1
  have hAO := hkn.2.2.1
  generalize hAe : va_A [(h0, .inr (1, [.ref bx, .int bc, .int lc, .int mf, .int li])), (bx, .inl (E.2.1 0, 72, .inl fx))] s.heap.size = A at hD hst ⊢
  have hA : ∀ q : Nat, s.heap.size ≤ q → A q := fun q h => by rw [← hAe]; exact Or.inr h
  have hS : va_S A s.heap s.heap [] := va_S.rf
  have hP : va_P E.1 vwCl [(h0, .inr (1, [.ref bx, .int bc, .int lc, .int mf, .int li])), (bx, .inl (E.2.1 0, 72, .inl fx))] s.heap := hP
  have hl := lv_entry ([.ref h0, .int (nI bb), .int pl, .int da]) (n := 4) (Nat.le_of_ble_eq_true rfl)
  rw [lg_entry_eq]
  generalize (lg_sl ([.ref h0, .int (nI bb), .int pl, .int da]) ++ List.replicate (4 - (lg_sl ([.ref h0, .int (nI bb), .int pl, .int da])).length) Slot.unset).toArray = ls at hl ⊢
  have hl : lv_has ls 4 [(0, .ref h0), (1, .int (nI bb)), (2, .int pl), (3, .int da)] := hl
  have fl9 := hts (.fieldLink RX1 9 "BoatsHome$Cover" "boxes" "[I") (by first | exact List.mem_of_getElem? (i := 1) rfl | decide +kernel)
  have inX1 : ∀ w ∈ u_ws RX1 TX1 5, w ∈ wsX1_boxHolds := by first | exact fun w h9 => (List.mem_cons_of_mem _ (List.mem_append_right _ h9)) | decide +kernel
  refine lv_iload_n hx hb dX1_boxHolds_0 rfl (lv_at hl 2 rfl) ?_
  have hPc := hP.sub (ws' := []) [] rfl
  have hDc := hD.sub (ws' := []) [] (by decide) rfl
  have hFc := va_free (wc := []) hD hS hA [] rfl
  refine va_calli (va_runSN (As := [.int pl]) (rest := []) ⟨hx, hb, hml, hown, hts⟩ (c_X11_columnOf l E pl s.heap.size ) ⟨va_cnB 1 hts gX1_boxHolds_X11_columnOf_n32 rfl rfl rfl (hkn.2.1 (.methodLinkNest RX1 32 yX11_columnOf "BoatsHome") (by decide +kernel)) (hts (.initialized RX11) (by first | exact List.mem_of_getElem? (i := 3) rfl | decide +kernel)) (by decide +kernel) ⟨Nat.le_of_ble_eq_true rfl, Nat.le_of_ble_eq_true rfl⟩, hts (.static yX11_columnOf) (by first | exact List.mem_of_getElem? (i := 2) rfl | decide +kernel), trivial⟩ ⟨pcW_blind, (pcW_pre hPc hkn hDc hst hS hFc)⟩ rfl rfl hl.1 rfl (lv_room (Nat.le_of_ble_eq_true rfl)) dX1_boxHolds_1 ⟨Nat.le_of_ble_eq_true rfl, Nat.le_of_ble_eq_true rfl⟩) hS (fun q _ h => hFc q h) hFc (fun r_1 u t H1 locs ht hvm hw_2 hB hz1 hk1 hS => ?_)
  obtain ⟨hP1, hD1⟩ := hB
  rw [ht] at hP1
  try dsimp only at hw_2
  obtain ⟨hP, hD⟩ := va_join (wr := [(h0, .inr (1, [.ref bx, .int bc, .int lc, .int mf, .int li])), (bx, .inl (E.2.1 0, 72, .inl fx))]) (w1 := []) hP hD [] [0, 1] rfl rfl (by decide) (by decide) hk1 hFc hP1 hD1
  generalize H1 = H at hP hS ⊢
  have hP : va_P E.1 vwCl [(h0, .inr (1, [.ref bx, .int bc, .int lc, .int mf, .int li])), (bx, .inl (E.2.1 0, 72, .inl fx))] H := hP
  have hD : va_D A [(h0, .inr (1, [.ref bx, .int bc, .int lc, .int mf, .int li])), (bx, .inl (E.2.1 0, 72, .inl fx))] := hD
  refine lv_aload_n hx hb dX1_boxHolds_4 rfl (lv_at hl 0 rfl) ?_
  refine va_get (D := E.1) (ci := 1) (v := .ref bx) (C := RX1) (T := TX1) (N := 5) hx hb hts inX1 hown hK hP 0 rfl rfl 0 (by decide) fl9 (fun _ h9 => h9) rfl dX1_boxHolds_5 ?_
  refine lv_iload_n hx hb dX1_boxHolds_8 rfl (lv_at hl 1 rfl) ?_
  have hi_3 : vp_in (nI bb) 72 := vp_in_nI (by omega) (by decide)
  refine va_iald hx hb hK hP 1 0 rfl rfl hi_3 dX1_boxHolds_9 ?_
  refine lv_topi (fun x_4 ex_4 => ?_)
  refine lv_aload_n hx hb dX1_boxHolds_10 rfl (lv_at hl 0 rfl) ?_
  refine va_get (D := E.1) (ci := 1) (v := .ref bx) (C := RX1) (T := TX1) (N := 5) hx hb hts inX1 hown hK hP 0 rfl rfl 0 (by decide) fl9 (fun _ h9 => h9) rfl dX1_boxHolds_11 ?_
  refine lv_iload_n hx hb dX1_boxHolds_14 rfl (lv_at hl 1 rfl) ?_
  refine lv_iconst (v := 2) hx hb dX1_boxHolds_15 (by decide) ?_
  refine lv_iadd hx hb dX1_boxHolds_16 ?_
  refine lv_topi (fun x_5 ex_5 => ?_)
  obtain rfl : x_5 = nI (bb + 2) := ex_5.trans (nI_add bb 2)
  have hi_6 : vp_in (nI (bb + 2)) 72 := vp_in_nI (by omega) (by decide)
  refine va_iald hx hb hK hP 1 0 rfl rfl hi_6 dX1_boxHolds_17 ?_
  refine lv_topi (fun x_7 ex_7 => ?_)
  have hPc := hP.sub (ws' := []) [] rfl
  have hDc := hD.sub (ws' := []) [] (by decide) rfl
  have hFc := va_free (wc := []) hD hS hA [] rfl
  refine va_calli (va_runS (As := [.int r_1, .int x_4, .int x_7]) (rest := []) ⟨hx, hb, hml, hown, hts⟩ (c_X1_between l E r_1 x_4 x_7 H.size ) (va_cwS 3 hts gX1_boxHolds_X1_between rfl rfl rfl hdS_X1_between ⟨Nat.le_of_ble_eq_true rfl, Nat.le_of_ble_eq_true rfl⟩) ⟨pcW_blind, (pcW_pre hPc hkn hDc hst hS hFc)⟩ rfl rfl hl.1 rfl (lv_room (Nat.le_of_ble_eq_true rfl)) dX1_boxHolds_18 ⟨Nat.le_of_ble_eq_true rfl, Nat.le_of_ble_eq_true rfl⟩) hS (fun q _ h => hFc q h) hFc (fun r_8 u t H1 locs ht hvm hw_9 hB hz1 hk1 hS => ?_)
  obtain ⟨hP1, hD1⟩ := hB
  rw [ht] at hP1
  try dsimp only at hw_9
  obtain ⟨hP, hD⟩ := va_join (wr := [(h0, .inr (1, [.ref bx, .int bc, .int lc, .int mf, .int li])), (bx, .inl (E.2.1 0, 72, .inl fx))]) (w1 := []) hP hD [] [0, 1] rfl rfl (by decide) (by decide) hk1 hFc hP1 hD1
  generalize H1 = H at hP hS ⊢
  have hP : va_P E.1 vwCl [(h0, .inr (1, [.ref bx, .int bc, .int lc, .int mf, .int li])), (bx, .inl (E.2.1 0, 72, .inl fx))] H := hP
  have hD : va_D A [(h0, .inr (1, [.ref bx, .int bc, .int lc, .int mf, .int li])), (bx, .inl (E.2.1 0, 72, .inl fx))] := hD
  refine lv_if_eq (tgt := 77) hx hb dX1_boxHolds_21 (by decide) (fun c_10 => ?_) (fun c_10 => ?_)
  · refine lv_iconst (v := 0) hx hb dX1_boxHolds_77 (by decide) ?_
    have hP9 := hP.sub (ws' := [(h0, .inr (1, [.ref bx, .int bc, .int lc, .int mf, .int li])), (bx, .inl (E.2.1 0, 72, .inl fx))]) [0, 1] rfl
    have hD9 := hD.sub (ws' := [(h0, .inr (1, [.ref bx, .int bc, .int lc, .int mf, .int li])), (bx, .inl (E.2.1 0, 72, .inl fx))]) [0, 1] (by decide) rfl
    exact W.zret (v := 0) hx hb hr (by decide) (fun t ht hW => ⟨⟨0, (), rfl, Or.inl rfl, by rw [ht]; exact hP9, hD9⟩, hS.F ht⟩) hS.2.2 dX1_boxHolds_78
  · refine lv_iload_n hx hb dX1_boxHolds_24 rfl (lv_at hl 2 rfl) ?_
    have hPc := hP.sub (ws' := []) [] rfl
    have hDc := hD.sub (ws' := []) [] (by decide) rfl
    have hFc := va_free (wc := []) hD hS hA [] rfl
    refine va_calli (va_runSN (As := [.int pl]) (rest := []) ⟨hx, hb, hml, hown, hts⟩ (c_X11_rowOf l E pl H.size ) ⟨va_cnB 1 hts gX1_boxHolds_X11_rowOf_n39 rfl rfl rfl (hkn.2.1 (.methodLinkNest RX1 39 yX11_rowOf "BoatsHome") (by decide +kernel)) (hts (.initialized RX11) (by first | exact List.mem_of_getElem? (i := 3) rfl | decide +kernel)) (by decide +kernel) ⟨Nat.le_of_ble_eq_true rfl, Nat.le_of_ble_eq_true rfl⟩, hts (.static yX11_rowOf) (by first | exact List.mem_of_getElem? (i := 18) rfl | decide +kernel), trivial⟩ ⟨pcW_blind, (pcW_pre hPc hkn hDc hst hS hFc)⟩ rfl rfl hl.1 rfl (lv_room (Nat.le_of_ble_eq_true rfl)) dX1_boxHolds_25 ⟨Nat.le_of_ble_eq_true rfl, Nat.le_of_ble_eq_true rfl⟩) hS (fun q _ h => hFc q h) hFc (fun r_11 u t H1 locs ht hvm hw_12 hB hz1 hk1 hS => ?_)
    obtain ⟨hP1, hD1⟩ := hB
    rw [ht] at hP1
    try dsimp only at hw_12
    obtain ⟨hP, hD⟩ := va_join (wr := [(h0, .inr (1, [.ref bx, .int bc, .int lc, .int mf, .int li])), (bx, .inl (E.2.1 0, 72, .inl fx))]) (w1 := []) hP hD [] [0, 1] rfl rfl (by decide) (by decide) hk1 hFc hP1 hD1
    generalize H1 = H at hP hS ⊢
    have hP : va_P E.1 vwCl [(h0, .inr (1, [.ref bx, .int bc, .int lc, .int mf, .int li])), (bx, .inl (E.2.1 0, 72, .inl fx))] H := hP
    have hD : va_D A [(h0, .inr (1, [.ref bx, .int bc, .int lc, .int mf, .int li])), (bx, .inl (E.2.1 0, 72, .inl fx))] := hD
    refine lv_aload_n hx hb dX1_boxHolds_28 rfl (lv_at hl 0 rfl) ?_
    refine va_get (D := E.1) (ci := 1) (v := .ref bx) (C := RX1) (T := TX1) (N := 5) hx hb hts inX1 hown hK hP 0 rfl rfl 0 (by decide) fl9 (fun _ h9 => h9) rfl dX1_boxHolds_29 ?_
    refine lv_iload_n hx hb dX1_boxHolds_32 rfl (lv_at hl 1 rfl) ?_
    refine lv_iconst (v := 1) hx hb dX1_boxHolds_33 (by decide) ?_
    refine lv_iadd hx hb dX1_boxHolds_34 ?_
    refine lv_topi (fun x_13 ex_13 => ?_)
    obtain rfl : x_13 = nI (bb + 1) := ex_13.trans (nI_1 _)
    have hi_14 : vp_in (nI (bb + 1)) 72 := vp_in_nI (by omega) (by decide)
    refine va_iald hx hb hK hP 1 0 rfl rfl hi_14 dX1_boxHolds_35 ?_
    refine lv_topi (fun x_15 ex_15 => ?_)
    refine lv_aload_n hx hb dX1_boxHolds_36 rfl (lv_at hl 0 rfl) ?_
    refine va_get (D := E.1) (ci := 1) (v := .ref bx) (C := RX1) (T := TX1) (N := 5) hx hb hts inX1 hown hK hP 0 rfl rfl 0 (by decide) fl9 (fun _ h9 => h9) rfl dX1_boxHolds_37 ?_
    refine lv_iload_n hx hb dX1_boxHolds_40 rfl (lv_at hl 1 rfl) ?_
    refine lv_iconst (v := 3) hx hb dX1_boxHolds_41 (by decide) ?_
    refine lv_iadd hx hb dX1_boxHolds_42 ?_
    refine lv_topi (fun x_16 ex_16 => ?_)
    obtain rfl : x_16 = nI (bb + 3) := ex_16.trans (nI_add bb 3)
    have hi_17 : vp_in (nI (bb + 3)) 72 := vp_in_nI (by omega) (by decide)
    refine va_iald hx hb hK hP 1 0 rfl rfl hi_17 dX1_boxHolds_43 ?_
    refine lv_topi (fun x_18 ex_18 => ?_)
    have hPc := hP.sub (ws' := []) [] rfl
    have hDc := hD.sub (ws' := []) [] (by decide) rfl
    have hFc := va_free (wc := []) hD hS hA [] rfl
    refine va_calli (va_runS (As := [.int r_11, .int x_15, .int x_18]) (rest := []) ⟨hx, hb, hml, hown, hts⟩ (c_X1_between l E r_11 x_15 x_18 H.size ) (va_cwS 3 hts gX1_boxHolds_X1_between rfl rfl rfl hdS_X1_between ⟨Nat.le_of_ble_eq_true rfl, Nat.le_of_ble_eq_true rfl⟩) ⟨pcW_blind, (pcW_pre hPc hkn hDc hst hS hFc)⟩ rfl rfl hl.1 rfl (lv_room (Nat.le_of_ble_eq_true rfl)) dX1_boxHolds_44 ⟨Nat.le_of_ble_eq_true rfl, Nat.le_of_ble_eq_true rfl⟩) hS (fun q _ h => hFc q h) hFc (fun r_19 u t H1 locs ht hvm hw_20 hB hz1 hk1 hS => ?_)
    obtain ⟨hP1, hD1⟩ := hB
    rw [ht] at hP1
    try dsimp only at hw_20
    obtain ⟨hP, hD⟩ := va_join (wr := [(h0, .inr (1, [.ref bx, .int bc, .int lc, .int mf, .int li])), (bx, .inl (E.2.1 0, 72, .inl fx))]) (w1 := []) hP hD [] [0, 1] rfl rfl (by decide) (by decide) hk1 hFc hP1 hD1
    generalize H1 = H at hP hS ⊢
    have hP : va_P E.1 vwCl [(h0, .inr (1, [.ref bx, .int bc, .int lc, .int mf, .int li])), (bx, .inl (E.2.1 0, 72, .inl fx))] H := hP
    have hD : va_D A [(h0, .inr (1, [.ref bx, .int bc, .int lc, .int mf, .int li])), (bx, .inl (E.2.1 0, 72, .inl fx))] := hD
    refine lv_if_eq (tgt := 77) hx hb dX1_boxHolds_47 (by decide) (fun c_21 => ?_) (fun c_21 => ?_)
    · refine lv_iconst (v := 0) hx hb dX1_boxHolds_77 (by decide) ?_
      have hP9 := hP.sub (ws' := [(h0, .inr (1, [.ref bx, .int bc, .int lc, .int mf, .int li])), (bx, .inl (E.2.1 0, 72, .inl fx))]) [0, 1] rfl
      have hD9 := hD.sub (ws' := [(h0, .inr (1, [.ref bx, .int bc, .int lc, .int mf, .int li])), (bx, .inl (E.2.1 0, 72, .inl fx))]) [0, 1] (by decide) rfl
      exact W.zret (v := 0) hx hb hr (by decide) (fun t ht hW => ⟨⟨0, (), rfl, Or.inl rfl, by rw [ht]; exact hP9, hD9⟩, hS.F ht⟩) hS.2.2 dX1_boxHolds_78
    · refine lv_iload_n hx hb dX1_boxHolds_50 rfl (lv_at hl 3 rfl) ?_
      refine lv_aload_n hx hb dX1_boxHolds_51 rfl (lv_at hl 0 rfl) ?_
      refine va_get (D := E.1) (ci := 1) (v := .ref bx) (C := RX1) (T := TX1) (N := 5) hx hb hts inX1 hown hK hP 0 rfl rfl 0 (by decide) fl9 (fun _ h9 => h9) rfl dX1_boxHolds_52 ?_
      refine lv_iload_n hx hb dX1_boxHolds_55 rfl (lv_at hl 1 rfl) ?_
      refine lv_iconst (v := 4) hx hb dX1_boxHolds_56 (by decide) ?_
      refine lv_iadd hx hb dX1_boxHolds_57 ?_
      refine lv_topi (fun x_22 ex_22 => ?_)
      obtain rfl : x_22 = nI (bb + 4) := ex_22.trans (nI_add bb 4)
      have hi_23 : vp_in (nI (bb + 4)) 72 := vp_in_nI (by omega) (by decide)
      refine va_iald hx hb hK hP 1 0 rfl rfl hi_23 dX1_boxHolds_58 ?_
      refine lv_topi (fun x_24 ex_24 => ?_)
      refine lv_aload_n hx hb dX1_boxHolds_59 rfl (lv_at hl 0 rfl) ?_
      refine va_get (D := E.1) (ci := 1) (v := .ref bx) (C := RX1) (T := TX1) (N := 5) hx hb hts inX1 hown hK hP 0 rfl rfl 0 (by decide) fl9 (fun _ h9 => h9) rfl dX1_boxHolds_60 ?_
      refine lv_iload_n hx hb dX1_boxHolds_63 rfl (lv_at hl 1 rfl) ?_
      refine lv_iconst (v := 5) hx hb dX1_boxHolds_64 (by decide) ?_
      refine lv_iadd hx hb dX1_boxHolds_65 ?_
      refine lv_topi (fun x_25 ex_25 => ?_)
      obtain rfl : x_25 = nI (bb + 5) := ex_25.trans (nI_add bb 5)
      have hi_26 : vp_in (nI (bb + 5)) 72 := vp_in_nI (by omega) (by decide)
      refine va_iald hx hb hK hP 1 0 rfl rfl hi_26 dX1_boxHolds_66 ?_
      refine lv_topi (fun x_27 ex_27 => ?_)
      have hPc := hP.sub (ws' := []) [] rfl
      have hDc := hD.sub (ws' := []) [] (by decide) rfl
      have hFc := va_free (wc := []) hD hS hA [] rfl
      refine va_calli (va_runS (As := [.int da, .int x_24, .int x_27]) (rest := []) ⟨hx, hb, hml, hown, hts⟩ (c_X1_inSeason l E da x_24 x_27 H.size ) (va_cwS 3 hts gX1_boxHolds_X1_inSeason rfl rfl rfl hdS_X1_inSeason ⟨Nat.le_of_ble_eq_true rfl, Nat.le_of_ble_eq_true rfl⟩) ⟨pcW_blind, (pcW_pre hPc hkn hDc hst hS hFc)⟩ rfl rfl hl.1 rfl (lv_room (Nat.le_of_ble_eq_true rfl)) dX1_boxHolds_67 ⟨Nat.le_of_ble_eq_true rfl, Nat.le_of_ble_eq_true rfl⟩) hS (fun q _ h => hFc q h) hFc (fun r_28 u t H1 locs ht hvm hw_29 hB hz1 hk1 hS => ?_)
      obtain ⟨hP1, hD1⟩ := hB
      rw [ht] at hP1
      try dsimp only at hw_29
      obtain ⟨hP, hD⟩ := va_join (wr := [(h0, .inr (1, [.ref bx, .int bc, .int lc, .int mf, .int li])), (bx, .inl (E.2.1 0, 72, .inl fx))]) (w1 := []) hP hD [] [0, 1] rfl rfl (by decide) (by decide) hk1 hFc hP1 hD1
      generalize H1 = H at hP hS ⊢
      have hP : va_P E.1 vwCl [(h0, .inr (1, [.ref bx, .int bc, .int lc, .int mf, .int li])), (bx, .inl (E.2.1 0, 72, .inl fx))] H := hP
      have hD : va_D A [(h0, .inr (1, [.ref bx, .int bc, .int lc, .int mf, .int li])), (bx, .inl (E.2.1 0, 72, .inl fx))] := hD
      refine lv_if_eq (tgt := 77) hx hb dX1_boxHolds_70 (by decide) (fun c_30 => ?_) (fun c_30 => ?_)
      · refine lv_iconst (v := 0) hx hb dX1_boxHolds_77 (by decide) ?_
        have hP9 := hP.sub (ws' := [(h0, .inr (1, [.ref bx, .int bc, .int lc, .int mf, .int li])), (bx, .inl (E.2.1 0, 72, .inl fx))]) [0, 1] rfl
        have hD9 := hD.sub (ws' := [(h0, .inr (1, [.ref bx, .int bc, .int lc, .int mf, .int li])), (bx, .inl (E.2.1 0, 72, .inl fx))]) [0, 1] (by decide) rfl
        exact W.zret (v := 0) hx hb hr (by decide) (fun t ht hW => ⟨⟨0, (), rfl, Or.inl rfl, by rw [ht]; exact hP9, hD9⟩, hS.F ht⟩) hS.2.2 dX1_boxHolds_78
      · refine lv_iconst (v := 1) hx hb dX1_boxHolds_73 (by decide) ?_
        refine lv_goto (tgt := 78) hx hb dX1_boxHolds_74 (by decide) ?_
        have hP9 := hP.sub (ws' := [(h0, .inr (1, [.ref bx, .int bc, .int lc, .int mf, .int li])), (bx, .inl (E.2.1 0, 72, .inl fx))]) [0, 1] rfl
        have hD9 := hD.sub (ws' := [(h0, .inr (1, [.ref bx, .int bc, .int lc, .int mf, .int li])), (bx, .inl (E.2.1 0, 72, .inl fx))]) [0, 1] (by decide) rfl
        exact W.zret (v := 1) hx hb hr (by decide) (fun t ht hW => ⟨⟨1, (), rfl, Or.inr rfl, by rw [ht]; exact hP9, hD9⟩, hS.F ht⟩) hS.2.2 dX1_boxHolds_78
set_option maxHeartbeats 4000000 in
set_option maxRecDepth 100000 in
theorem lg_holds {p : Program} {l : Launch} {e : Env} {s : State} {m : MethodId} {args : Array Value} {below : List Frame} {meth : Method} {c : Code} {Q : State → Prop} {A : Nat → Prop} (E : vE) (h0 : Nat) (bx : Nat) (bc : Int32) (lc : Int32) (mf : Int32) (li : Int32) (fx : Nat → Int32) (pl : Int32) (da : Int32) (pe : Int32) (fo : Int32) (hx : p.tables.exec = Jvm.exec) (hb : c.code = cX1_holds) (hml : c.maxLocals = 6) (hown : s.vm.findClass RX1 = some m.cls) (hts : ∀ w ∈ wsX1_holds, w.before args s = true) (hkn : kn E s) (hst : st E A s s.heap) (hA : ∀ q : Nat, s.heap.size ≤ q → A q) (kk : ∀ (H : Heap) (locs : List Loc) (ls : Array Slot), va_P E.1 vwCl [(h0, .inr (1, [.ref bx, .int bc, .int lc, .int mf, .int li])), (bx, .inl (E.2.1 0, 72, .inl fx))] H → va_D A [(h0, .inr (1, [.ref bx, .int bc, .int lc, .int mf, .int li])), (bx, .inl (E.2.1 0, 72, .inl fx))] → va_S A s.heap H locs → lv_has ls 6 [(0, .ref h0)] → W p l e ({ frames := 3, cells := 0, slots := 0, locals := 69 }) s m args below meth c H locs 0 0 Q (F0 m 64 ls [])) (kk2 : ∀ (H : Heap) (locs : List Loc) (ls : Array Slot), va_P E.1 vwCl [(h0, .inr (1, [.ref bx, .int bc, .int lc, .int mf, .int li])), (bx, .inl (E.2.1 0, 72, .inl fx))] H → va_D A [(h0, .inr (1, [.ref bx, .int bc, .int lc, .int mf, .int li])), (bx, .inl (E.2.1 0, 72, .inl fx))] → va_S A s.heap H locs → lv_has ls 6 [(0, .ref h0)] → W p l e ({ frames := 3, cells := 0, slots := 0, locals := 69 }) s m args below meth c H locs 0 0 Q (F0 m 56 ls [])) : ∀ (n0 : Nat) (k : Nat) (H : Heap) (locs : List Loc) (ls : Array Slot), 12 - k < n0 → (k ≤ 12) → va_P E.1 vwCl [(h0, .inr (1, [.ref bx, .int bc, .int lc, .int mf, .int li])), (bx, .inl (E.2.1 0, 72, .inl fx))] H → va_D A [(h0, .inr (1, [.ref bx, .int bc, .int lc, .int mf, .int li])), (bx, .inl (E.2.1 0, 72, .inl fx))] → va_S A s.heap H locs → lv_has ls 6 [(0, .ref h0), (1, .int pl), (2, .int da), (3, .int pe), (4, .int fo), (5, .int (nI k))] → W p l e ({ frames := 3, cells := 0, slots := 0, locals := 69 }) s m args below meth c H locs 0 0 Q (F0 m 22 ls []) := by
  have hK := hkn.1
  have hAO := hkn.2.2.1
  have fl15 := hts (.fieldLink RX1 15 "BoatsHome$Cover" "boxCount" "I") (by first | exact List.mem_of_getElem? (i := 3) rfl | decide +kernel)
  have fl19 := hts (.fieldLink RX1 19 "BoatsHome$Cover" "leastCrew" "I") (by first | exact List.mem_of_getElem? (i := 1) rfl | decide +kernel)
  have fl22 := hts (.fieldLink RX1 22 "BoatsHome$Cover" "mostForce" "I") (by first | exact List.mem_of_getElem? (i := 2) rfl | decide +kernel)
  have inX1 : ∀ w ∈ u_ws RX1 TX1 5, w ∈ wsX1_holds := by first | exact fun w h9 => (List.mem_cons_of_mem _ (List.mem_append_right _ h9)) | decide +kernel
  intro n0
  induction n0 with
  | zero =>
    intro k H locs ls hn0
    exact absurd hn0 (Nat.not_lt_zero _)
  | succ n0 ih =>
    intro k H locs ls hn0 hk hP hD hS hl
    refine lv_iload hx hb dX1_holds_22 (lv_at hl 5 rfl) ?_
    refine lv_aload_n hx hb dX1_holds_24 rfl (lv_at hl 0 rfl) ?_
    refine va_get (D := E.1) (ci := 1) (v := .int bc) (C := RX1) (T := TX1) (N := 5) hx hb hts inX1 hown hK hP 0 rfl rfl 1 (by decide) fl15 (fun _ h9 => h9) rfl dX1_holds_25 ?_
    refine lv_icmp_ge (tgt := 64) hx hb dX1_holds_28 (by decide) (fun c_1 => ?_) (fun c_1 => ?_)
    · exact kk  _ _ _  (hP.sub [0, 1] rfl) (hD.sub [0, 1] (by decide) rfl) hS (lv_sub hl [0] rfl)
    · refine lv_iload hx hb dX1_holds_31 (lv_at hl 5 rfl) ?_
      refine lv_bipush (v := 12) hx hb dX1_holds_33 (by decide) ?_
      refine lv_icmp_ge (tgt := 64) hx hb dX1_holds_35 (by decide) (fun c_2 => ?_) (fun c_2 => ?_)
      · exact kk  _ _ _  (hP.sub [0, 1] rfl) (hD.sub [0, 1] (by decide) rfl) hS (lv_sub hl [0] rfl)
      · have hlt : k < 12 := by
          rcases Nat.lt_or_ge k 12 with q | q
          · exact q
          · exact absurd (show (12 : Int32) ≤ nI k from nI_le (a := 12) q (by omega)) c_2
        refine lv_aload_n hx hb dX1_holds_38 rfl (lv_at hl 0 rfl) ?_
        refine lv_iload hx hb dX1_holds_39 (lv_at hl 5 rfl) ?_
        refine lv_bipush (v := 6) hx hb dX1_holds_41 (by decide) ?_
        refine lv_imul hx hb dX1_holds_43 ?_
        refine lv_topi (fun x_3 ex_3 => ?_)
        obtain rfl : x_3 = nI (k * 6) := ex_3.trans (pk_mul k 6)
        refine lv_iload_n hx hb dX1_holds_44 rfl (lv_at hl 1 rfl) ?_
        refine lv_iload_n hx hb dX1_holds_45 rfl (lv_at hl 2 rfl) ?_
        refine lv_sipush (v := 360) hx hb dX1_holds_46 (by decide) ?_
        refine lv_irem hx hb dX1_holds_49 (by decide) ?_
        refine lv_topi (fun x_4 ex_4 => ?_)
        have hPc := hP.sub (ws' := [(h0, .inr (1, [.ref bx, .int bc, .int lc, .int mf, .int li])), (bx, .inl (E.2.1 0, 72, .inl fx))]) [0, 1] rfl
        have hDc := hD.sub (ws' := [(h0, .inr (1, [.ref bx, .int bc, .int lc, .int mf, .int li])), (bx, .inl (E.2.1 0, 72, .inl fx))]) [0, 1] (by decide) rfl
        have hFc := va_free (wc := [(h0, .inr (1, [.ref bx, .int bc, .int lc, .int mf, .int li])), (bx, .inl (E.2.1 0, 72, .inl fx))]) hD hS hA [0, 1] rfl
        refine va_calli (va_runV (As := [.int (nI (k * 6)), .int pl, .int x_4]) (rest := []) ⟨hx, hb, hml, hown, hts⟩ (c_X1_boxHolds l E h0 bx (k * 6) bc lc mf li pl x_4 fx H.size (by omega)) (cwV 3 hts gX1_holds_X1_boxHolds rfl rfl rfl hdV_X1_boxHolds ⟨Nat.le_of_ble_eq_true rfl, Nat.le_of_ble_eq_true rfl⟩) ⟨pcW_blind, va_recv hK hPc (ci := 1) (q0 := 0) rfl rfl, (pcW_pre hPc hkn hDc hst hS hFc)⟩ rfl rfl hl.1 rfl (lv_room (Nat.le_of_ble_eq_true rfl)) dX1_holds_50 ⟨Nat.le_of_ble_eq_true rfl, Nat.le_of_ble_eq_true rfl⟩) hS (fun q _ h => hFc q h) hFc (fun r_5 u t H1 locs ht hvm hw_6 hB hz1 hk1 hS => ?_)
        obtain ⟨hP1, hD1⟩ := hB
        rw [ht] at hP1
        try dsimp only at hw_6
        obtain ⟨hP, hD⟩ := va_join (wr := []) (w1 := [(h0, .inr (1, [.ref bx, .int bc, .int lc, .int mf, .int li])), (bx, .inl (E.2.1 0, 72, .inl fx))]) hP hD [0, 1] [] rfl rfl (by decide) (by decide) hk1 hFc hP1 hD1
        generalize H1 = H at hP hS ⊢
        have hP : va_P E.1 vwCl [(h0, .inr (1, [.ref bx, .int bc, .int lc, .int mf, .int li])), (bx, .inl (E.2.1 0, 72, .inl fx))] H := hP
        have hD : va_D A [(h0, .inr (1, [.ref bx, .int bc, .int lc, .int mf, .int li])), (bx, .inl (E.2.1 0, 72, .inl fx))] := hD
        refine lv_if_eq (tgt := 58) hx hb dX1_holds_53 (by decide) (fun c_7 => ?_) (fun c_7 => ?_)
        · refine lv_iinc (v := (nI (k + 1))) (lv' := [(5, .int (nI (k + 1))), (0, .ref h0), (1, .int pl), (2, .int da), (3, .int pe), (4, .int fo)]) hx hb dX1_holds_58 hl (k := 5) rfl (show nI k + 1 = nI (k + 1) from nI_1 k) (by decide) rfl (fun ls hl => ?_)
          refine lv_goto (tgt := 22) hx hb dX1_holds_61 (by decide) ?_
          exact ih (k + 1) _ _ _ (by omega) (by omega) (hP.sub [0, 1] rfl) (hD.sub [0, 1] (by decide) rfl) hS (lv_sub hl [1, 2, 3, 4, 5, 0] rfl)
        · exact kk2  _ _ _  (hP.sub [0, 1] rfl) (hD.sub [0, 1] (by decide) rfl) hS (lv_sub hl [0] rfl)
set_option maxHeartbeats 4000000 in
set_option maxRecDepth 100000 in
theorem c_X1_holds (l : Launch) (E : vE) (h0 : Nat) (bx : Nat) (bc : Int32) (lc : Int32) (mf : Int32) (li : Int32) (fx : Nat → Int32) (pl : Int32) (da : Int32) (pe : Int32) (fo : Int32) (sz : Nat) : Met l yX1_holds wsX1_holds ({ frames := 3, cells := 0, slots := 0, locals := 69 }) (pcW E [.ref h0, .int pl, .int da, .int pe, .int fo] sz [(h0, .inr (1, [.ref bx, .int bc, .int lc, .int mf, .int li])), (bx, .inl (E.2.1 0, 72, .inl fx))]) (va_Qi (fun (r : Int32) (_ : Unit) => r = 0 ∨ r = 1) (fun (_ : Unit) (t : State) => wB E (va_A [(h0, .inr (1, [.ref bx, .int bc, .int lc, .int mf, .int li])), (bx, .inl (E.2.1 0, 72, .inl fx))] sz) [(h0, .inr (1, [.ref bx, .int bc, .int lc, .int mf, .int li])), (bx, .inl (E.2.1 0, 72, .inl fx))] t) (va_A [(h0, .inr (1, [.ref bx, .int bc, .int lc, .int mf, .int li])), (bx, .inl (E.2.1 0, 72, .inl fx))] sz)) 0 0 (va_A [(h0, .inr (1, [.ref bx, .int bc, .int lc, .int mf, .int li])), (bx, .inl (E.2.1 0, 72, .inl fx))] sz) := by
  refine Met.ofW (cc := cX1_holds) (maxL := 6) (ret := (some .boolean)) (by decide) rfl ?_
  intro p e s m args below meth c s₁ B hml hv
  obtain ⟨rfl, hsz, hP, hkn, hD0, hst⟩ := hv
  have hx := B.exec
  have hb := B.bytes
  have hr := B.returns
  have hts := atoms_spec (ws := wsX1_holds) B.pre
  have hown : s.vm.findClass RX1 = some m.cls := findClass_of_methodNamed B.named
  have hlocks := B.notSynchronized
  subst hsz
  have hD := hD0.self (sz := s.heap.size)
  have hK := hkn.1
  have hAO := hkn.2.2.1
  generalize hAe : va_A [(h0, .inr (1, [.ref bx, .int bc, .int lc, .int mf, .int li])), (bx, .inl (E.2.1 0, 72, .inl fx))] s.heap.size = A at hD hst ⊢
  have hA : ∀ q : Nat, s.heap.size ≤ q → A q := fun q h => by rw [← hAe]; exact Or.inr h
  have hS : va_S A s.heap s.heap [] := va_S.rf
  have hP : va_P E.1 vwCl [(h0, .inr (1, [.ref bx, .int bc, .int lc, .int mf, .int li])), (bx, .inl (E.2.1 0, 72, .inl fx))] s.heap := hP
  have hl := lv_entry ([.ref h0, .int pl, .int da, .int pe, .int fo]) (n := 6) (Nat.le_of_ble_eq_true rfl)
  rw [lg_entry_eq]
  generalize (lg_sl ([.ref h0, .int pl, .int da, .int pe, .int fo]) ++ List.replicate (6 - (lg_sl ([.ref h0, .int pl, .int da, .int pe, .int fo])).length) Slot.unset).toArray = ls at hl ⊢
  have hl : lv_has ls 6 [(0, .ref h0), (1, .int pl), (2, .int da), (3, .int pe), (4, .int fo)] := hl
  have fl15 := hts (.fieldLink RX1 15 "BoatsHome$Cover" "boxCount" "I") (by first | exact List.mem_of_getElem? (i := 3) rfl | decide +kernel)
  have fl19 := hts (.fieldLink RX1 19 "BoatsHome$Cover" "leastCrew" "I") (by first | exact List.mem_of_getElem? (i := 1) rfl | decide +kernel)
  have fl22 := hts (.fieldLink RX1 22 "BoatsHome$Cover" "mostForce" "I") (by first | exact List.mem_of_getElem? (i := 2) rfl | decide +kernel)
  have inX1 : ∀ w ∈ u_ws RX1 TX1 5, w ∈ wsX1_holds := by first | exact fun w h9 => (List.mem_cons_of_mem _ (List.mem_append_right _ h9)) | decide +kernel
  refine lv_iload_n hx hb dX1_holds_0 rfl (lv_at hl 3 rfl) ?_
  refine lv_aload_n hx hb dX1_holds_1 rfl (lv_at hl 0 rfl) ?_
  refine va_get (D := E.1) (ci := 1) (v := .int lc) (C := RX1) (T := TX1) (N := 5) hx hb hts inX1 hown hK hP 0 rfl rfl 2 (by decide) fl19 (fun _ h9 => h9) rfl dX1_holds_2 ?_
  refine lv_icmp_lt (tgt := 17) hx hb dX1_holds_5 (by decide) (fun c_1 => ?_) (fun c_1 => ?_)
  · refine lv_iconst (v := 0) hx hb dX1_holds_17 (by decide) ?_
    have hP9 := hP.sub (ws' := [(h0, .inr (1, [.ref bx, .int bc, .int lc, .int mf, .int li])), (bx, .inl (E.2.1 0, 72, .inl fx))]) [0, 1] rfl
    have hD9 := hD.sub (ws' := [(h0, .inr (1, [.ref bx, .int bc, .int lc, .int mf, .int li])), (bx, .inl (E.2.1 0, 72, .inl fx))]) [0, 1] (by decide) rfl
    exact W.zret (v := 0) hx hb hr (by decide) (fun t ht hW => ⟨⟨0, (), rfl, Or.inl rfl, by rw [ht]; exact hP9, hD9⟩, hS.F ht⟩) hS.2.2 dX1_holds_18
  · refine lv_iload hx hb dX1_holds_8 (lv_at hl 4 rfl) ?_
    refine lv_aload_n hx hb dX1_holds_10 rfl (lv_at hl 0 rfl) ?_
    refine va_get (D := E.1) (ci := 1) (v := .int mf) (C := RX1) (T := TX1) (N := 5) hx hb hts inX1 hown hK hP 0 rfl rfl 3 (by decide) fl22 (fun _ h9 => h9) rfl dX1_holds_11 ?_
    refine lv_icmp_le (tgt := 19) hx hb dX1_holds_14 (by decide) (fun c_2 => ?_) (fun c_2 => ?_)
    · refine lv_iconst (v := 0) hx hb dX1_holds_19 (by decide) ?_
      refine lv_istore (lv' := [(5, .int 0), (0, .ref h0), (1, .int pl), (2, .int da), (3, .int pe), (4, .int fo)]) hx hb dX1_holds_20 hl (by decide) rfl (fun ls hl => ?_)
      have hPl := hP.sub (ws' := [(h0, .inr (1, [.ref bx, .int bc, .int lc, .int mf, .int li])), (bx, .inl (E.2.1 0, 72, .inl fx))]) [0, 1] rfl
      have hDl := hD.sub (ws' := [(h0, .inr (1, [.ref bx, .int bc, .int lc, .int mf, .int li])), (bx, .inl (E.2.1 0, 72, .inl fx))]) [0, 1] (by decide) rfl
      refine lg_holds E h0 bx bc lc mf li fx pl da pe fo hx hb hml hown hts hkn hst hA  (fun  H locs ls  hP hD hS hl => ?_) (fun  H locs ls  hP hD hS hl => ?_) 13 0 _ _ _ (by omega) (by omega) hPl hDl hS (lv_sub hl [1, 2, 3, 4, 5, 0] rfl)
      · have hP : va_P E.1 vwCl [(h0, .inr (1, [.ref bx, .int bc, .int lc, .int mf, .int li])), (bx, .inl (E.2.1 0, 72, .inl fx))] H := hP
        have hD : va_D A [(h0, .inr (1, [.ref bx, .int bc, .int lc, .int mf, .int li])), (bx, .inl (E.2.1 0, 72, .inl fx))] := hD
        refine lv_iconst (v := 1) hx hb dX1_holds_64 (by decide) ?_
        have hP9 := hP.sub (ws' := [(h0, .inr (1, [.ref bx, .int bc, .int lc, .int mf, .int li])), (bx, .inl (E.2.1 0, 72, .inl fx))]) [0, 1] rfl
        have hD9 := hD.sub (ws' := [(h0, .inr (1, [.ref bx, .int bc, .int lc, .int mf, .int li])), (bx, .inl (E.2.1 0, 72, .inl fx))]) [0, 1] (by decide) rfl
        exact W.zret (v := 1) hx hb hr (by decide) (fun t ht hW => ⟨⟨1, (), rfl, Or.inr rfl, by rw [ht]; exact hP9, hD9⟩, hS.F ht⟩) hS.2.2 dX1_holds_65
      · have hP : va_P E.1 vwCl [(h0, .inr (1, [.ref bx, .int bc, .int lc, .int mf, .int li])), (bx, .inl (E.2.1 0, 72, .inl fx))] H := hP
        have hD : va_D A [(h0, .inr (1, [.ref bx, .int bc, .int lc, .int mf, .int li])), (bx, .inl (E.2.1 0, 72, .inl fx))] := hD
        refine lv_iconst (v := 0) hx hb dX1_holds_56 (by decide) ?_
        have hP9 := hP.sub (ws' := [(h0, .inr (1, [.ref bx, .int bc, .int lc, .int mf, .int li])), (bx, .inl (E.2.1 0, 72, .inl fx))]) [0, 1] rfl
        have hD9 := hD.sub (ws' := [(h0, .inr (1, [.ref bx, .int bc, .int lc, .int mf, .int li])), (bx, .inl (E.2.1 0, 72, .inl fx))]) [0, 1] (by decide) rfl
        exact W.zret (v := 0) hx hb hr (by decide) (fun t ht hW => ⟨⟨0, (), rfl, Or.inl rfl, by rw [ht]; exact hP9, hD9⟩, hS.F ht⟩) hS.2.2 dX1_holds_57
    · refine lv_iconst (v := 0) hx hb dX1_holds_17 (by decide) ?_
      have hP9 := hP.sub (ws' := [(h0, .inr (1, [.ref bx, .int bc, .int lc, .int mf, .int li])), (bx, .inl (E.2.1 0, 72, .inl fx))]) [0, 1] rfl
      have hD9 := hD.sub (ws' := [(h0, .inr (1, [.ref bx, .int bc, .int lc, .int mf, .int li])), (bx, .inl (E.2.1 0, 72, .inl fx))]) [0, 1] (by decide) rfl
      exact W.zret (v := 0) hx hb hr (by decide) (fun t ht hW => ⟨⟨0, (), rfl, Or.inl rfl, by rw [ht]; exact hP9, hD9⟩, hS.F ht⟩) hS.2.2 dX1_holds_18
set_option maxHeartbeats 4000000 in
set_option maxRecDepth 100000 in
theorem c_X7_pick (l : Launch) (E : vE) (wh : Int32) (a1 : Int32) (a2 : Int32) (a3 : Int32) (a4 : Int32) (sz : Nat) : Met l yX7_pick wsX7_pick ({ frames := 0, cells := 0, slots := 0, locals := 0 }) (pcW E [.int wh, .int a1, .int a2, .int a3, .int a4] sz []) (va_Qi (fun (r : Int32) (_ : Unit) => True) (fun (_ : Unit) (t : State) => wB E (va_A [] sz) [] t) (va_A [] sz)) 0 0 (va_A [] sz) := by
  refine Met.ofW (cc := cX7_pick) (maxL := 5) (ret := (some .int)) (by decide) rfl ?_
  intro p e s m args below meth c s₁ B hml hv
  obtain ⟨rfl, hsz, hP, hkn, hD0, hst⟩ := hv
  have hx := B.exec
  have hb := B.bytes
  have hr := B.returns
  have hts := atoms_spec (ws := wsX7_pick) B.pre
  have hown : s.vm.findClass RX7 = some m.cls := findClass_of_methodNamed B.named
  have hlocks := B.notSynchronized
  subst hsz
  have hD := hD0.self (sz := s.heap.size)
  have hK := hkn.1
  have hAO := hkn.2.2.1
  generalize hAe : va_A [] s.heap.size = A at hD hst ⊢
  have hA : ∀ q : Nat, s.heap.size ≤ q → A q := fun q h => by rw [← hAe]; exact Or.inr h
  have hS : va_S A s.heap s.heap [] := va_S.rf
  have hP : va_P E.1 vwCl [] s.heap := hP
  have hl := lv_entry ([.int wh, .int a1, .int a2, .int a3, .int a4]) (n := 5) (Nat.le_of_ble_eq_true rfl)
  rw [lg_entry_eq]
  generalize (lg_sl ([.int wh, .int a1, .int a2, .int a3, .int a4]) ++ List.replicate (5 - (lg_sl ([.int wh, .int a1, .int a2, .int a3, .int a4])).length) Slot.unset).toArray = ls at hl ⊢
  have hl : lv_has ls 5 [(0, .int wh), (1, .int a1), (2, .int a2), (3, .int a3), (4, .int a4)] := hl
  refine lv_iload_n hx hb dX7_pick_0 rfl (lv_at hl 0 rfl) ?_
  by_cases c_1 : wh = 0
  · refine lv_tableIn (tgt := 28) hx hb dX7_pick_1 (by rw [c_1]; decide) (by rw [c_1]; decide) (off := 27) (by rw [c_1]; rfl) (by decide) ?_
    refine lv_iload_n hx hb dX7_pick_28 rfl (lv_at hl 1 rfl) ?_
    have hP9 := hP.sub (ws' := []) [] rfl
    have hD9 := hD.sub (ws' := []) [] (by decide) rfl
    exact W.iret (v := a1) hx hb hr (fun t ht hW => ⟨⟨a1, (), rfl, trivial, by rw [ht]; exact hP9, hD9⟩, hS.F ht⟩) hS.2.2 dX7_pick_29
  by_cases c_2 : wh = 1
  · refine lv_tableIn (tgt := 30) hx hb dX7_pick_1 (by rw [c_2]; decide) (by rw [c_2]; decide) (off := 29) (by rw [c_2]; rfl) (by decide) ?_
    refine lv_iload_n hx hb dX7_pick_30 rfl (lv_at hl 2 rfl) ?_
    have hP9 := hP.sub (ws' := []) [] rfl
    have hD9 := hD.sub (ws' := []) [] (by decide) rfl
    exact W.iret (v := a2) hx hb hr (fun t ht hW => ⟨⟨a2, (), rfl, trivial, by rw [ht]; exact hP9, hD9⟩, hS.F ht⟩) hS.2.2 dX7_pick_31
  by_cases c_3 : wh = 2
  · refine lv_tableIn (tgt := 32) hx hb dX7_pick_1 (by rw [c_3]; decide) (by rw [c_3]; decide) (off := 31) (by rw [c_3]; rfl) (by decide) ?_
    refine lv_iload_n hx hb dX7_pick_32 rfl (lv_at hl 3 rfl) ?_
    have hP9 := hP.sub (ws' := []) [] rfl
    have hD9 := hD.sub (ws' := []) [] (by decide) rfl
    exact W.iret (v := a3) hx hb hr (fun t ht hW => ⟨⟨a3, (), rfl, trivial, by rw [ht]; exact hP9, hD9⟩, hS.F ht⟩) hS.2.2 dX7_pick_33
  refine lv_tableOut (tgt := 34) hx hb dX7_pick_1 (by have g0 : ¬ wh.toInt = 0 := fun h => c_1 (Int32.toInt_inj.mp (h.trans (by decide))); have g1 : ¬ wh.toInt = 1 := fun h => c_2 (Int32.toInt_inj.mp (h.trans (by decide))); have g2 : ¬ wh.toInt = 2 := fun h => c_3 (Int32.toInt_inj.mp (h.trans (by decide))); omega) (by decide) ?_
  refine lv_iload hx hb dX7_pick_34 (lv_at hl 4 rfl) ?_
  have hP9 := hP.sub (ws' := []) [] rfl
  have hD9 := hD.sub (ws' := []) [] (by decide) rfl
  exact W.iret (v := a4) hx hb hr (fun t ht hW => ⟨⟨a4, (), rfl, trivial, by rw [ht]; exact hP9, hD9⟩, hS.F ht⟩) hS.2.2 dX7_pick_36
set_option maxHeartbeats 4000000 in
set_option maxRecDepth 100000 in
theorem lg_act {p : Program} {l : Launch} {e : Env} {s : State} {m : MethodId} {args : Array Value} {below : List Frame} {meth : Method} {c : Code} {Q : State → Prop} {A : Nat → Prop} (E : vE) (h0 : Nat) (s1 : Nat) (s2 : Nat) (s3 : Nat) (s4 : Nat) (sz_ : Int32) (r1 : Nat → Int32) (r2 : Nat → Int32) (r3 : Nat → Int32) (r4 : Nat → Int32) (a1 : Int32) (a2 : Int32) (a3 : Int32) (a4 : Int32) (hx : p.tables.exec = Jvm.exec) (hb : c.code = cX7_actAt) (hml : c.maxLocals = 7) (hown : s.vm.findClass RX7 = some m.cls) (hts : ∀ w ∈ wsX7_actAt, w.before args s = true) (hkn : kn E s) (hst : st E A s s.heap) (hA : ∀ q : Nat, s.heap.size ≤ q → A q) (kk : ∀ (H : Heap) (locs : List Loc) (ls : Array Slot), va_P E.1 vwCl [(h0, .inr (7, [.ref s1, .ref s2, .ref s3, .ref s4, .int sz_])), (s1, .inl (E.2.1 0, 12, .inl r1)), (s2, .inl (E.2.1 1, 12, .inl r2)), (s3, .inl (E.2.1 0, 12, .inl r3)), (s4, .inl (E.2.1 0, 12, .inl r4))] H → va_D A [(h0, .inr (7, [.ref s1, .ref s2, .ref s3, .ref s4, .int sz_])), (s1, .inl (E.2.1 0, 12, .inl r1)), (s2, .inl (E.2.1 1, 12, .inl r2)), (s3, .inl (E.2.1 0, 12, .inl r3)), (s4, .inl (E.2.1 0, 12, .inl r4))] → va_S A s.heap H locs → lv_has ls 7 [(0, .ref h0)] → W p l e ({ frames := 1, cells := 0, slots := 0, locals := 24 }) s m args below meth c H locs 0 0 Q (F0 m 87 ls [])) (kk2 : ∀ (k : Nat) (H : Heap) (locs : List Loc) (ls : Array Slot), (k < 12) → va_P E.1 vwCl [(h0, .inr (7, [.ref s1, .ref s2, .ref s3, .ref s4, .int sz_])), (s1, .inl (E.2.1 0, 12, .inl r1)), (s2, .inl (E.2.1 1, 12, .inl r2)), (s3, .inl (E.2.1 0, 12, .inl r3)), (s4, .inl (E.2.1 0, 12, .inl r4))] H → va_D A [(h0, .inr (7, [.ref s1, .ref s2, .ref s3, .ref s4, .int sz_])), (s1, .inl (E.2.1 0, 12, .inl r1)), (s2, .inl (E.2.1 1, 12, .inl r2)), (s3, .inl (E.2.1 0, 12, .inl r3)), (s4, .inl (E.2.1 0, 12, .inl r4))] → va_S A s.heap H locs → lv_has ls 7 [(0, .ref h0), (1, .int a1), (2, .int a2), (3, .int a3), (4, .int a4), (5, .int (nI k))] → W p l e ({ frames := 1, cells := 0, slots := 0, locals := 24 }) s m args below meth c H locs 0 0 Q (F0 m 73 ls [])) : ∀ (n0 : Nat) (k : Nat) (H : Heap) (locs : List Loc) (ls : Array Slot), 12 - k < n0 → (k ≤ 12) → va_P E.1 vwCl [(h0, .inr (7, [.ref s1, .ref s2, .ref s3, .ref s4, .int sz_])), (s1, .inl (E.2.1 0, 12, .inl r1)), (s2, .inl (E.2.1 1, 12, .inl r2)), (s3, .inl (E.2.1 0, 12, .inl r3)), (s4, .inl (E.2.1 0, 12, .inl r4))] H → va_D A [(h0, .inr (7, [.ref s1, .ref s2, .ref s3, .ref s4, .int sz_])), (s1, .inl (E.2.1 0, 12, .inl r1)), (s2, .inl (E.2.1 1, 12, .inl r2)), (s3, .inl (E.2.1 0, 12, .inl r3)), (s4, .inl (E.2.1 0, 12, .inl r4))] → va_S A s.heap H locs → lv_has ls 7 [(0, .ref h0), (1, .int a1), (2, .int a2), (3, .int a3), (4, .int a4), (5, .int (nI k))] → W p l e ({ frames := 1, cells := 0, slots := 0, locals := 24 }) s m args below meth c H locs 0 0 Q (F0 m 3 ls []) := by
  have hK := hkn.1
  have hAO := hkn.2.2.1
  have fl9 := hts (.fieldLink RX7 9 "BoatsHome$Rules" "seen" "[I") (by first | exact List.mem_of_getElem? (i := 2) rfl | decide +kernel)
  have fl15 := hts (.fieldLink RX7 15 "BoatsHome$Rules" "above" "[Z") (by first | exact List.mem_of_getElem? (i := 3) rfl | decide +kernel)
  have fl19 := hts (.fieldLink RX7 19 "BoatsHome$Rules" "bounds" "[I") (by first | exact List.mem_of_getElem? (i := 4) rfl | decide +kernel)
  have fl22 := hts (.fieldLink RX7 22 "BoatsHome$Rules" "acts" "[I") (by first | exact List.mem_of_getElem? (i := 5) rfl | decide +kernel)
  have fl25 := hts (.fieldLink RX7 25 "BoatsHome$Rules" "size" "I") (by first | exact List.mem_of_getElem? (i := 1) rfl | decide +kernel)
  have inX7 : ∀ w ∈ u_ws RX7 TX7 5, w ∈ wsX7_actAt := by first | exact fun w h9 => (List.mem_cons_of_mem _ (List.mem_append_right _ h9)) | decide +kernel
  intro n0
  induction n0 with
  | zero =>
    intro k H locs ls hn0
    exact absurd hn0 (Nat.not_lt_zero _)
  | succ n0 ih =>
    intro k H locs ls hn0 hk hP hD hS hl
    refine lv_iload hx hb dX7_actAt_3 (lv_at hl 5 rfl) ?_
    refine lv_aload_n hx hb dX7_actAt_5 rfl (lv_at hl 0 rfl) ?_
    refine va_get (D := E.1) (ci := 7) (v := .int sz_) (C := RX7) (T := TX7) (N := 5) hx hb hts inX7 hown hK hP 0 rfl rfl 4 (by decide) fl25 (fun _ h9 => h9) rfl dX7_actAt_6 ?_
    refine lv_icmp_ge (tgt := 87) hx hb dX7_actAt_9 (by decide) (fun c_1 => ?_) (fun c_1 => ?_)
    · exact kk  _ _ _  (hP.sub [0, 1, 2, 3, 4] rfl) (hD.sub [0, 1, 2, 3, 4] (by decide) rfl) hS (lv_sub hl [0] rfl)
    · refine lv_iload hx hb dX7_actAt_12 (lv_at hl 5 rfl) ?_
      refine lv_bipush (v := 12) hx hb dX7_actAt_14 (by decide) ?_
      refine lv_icmp_ge (tgt := 87) hx hb dX7_actAt_16 (by decide) (fun c_2 => ?_) (fun c_2 => ?_)
      · exact kk  _ _ _  (hP.sub [0, 1, 2, 3, 4] rfl) (hD.sub [0, 1, 2, 3, 4] (by decide) rfl) hS (lv_sub hl [0] rfl)
      · have hlt : k < 12 := by
          rcases Nat.lt_or_ge k 12 with q | q
          · exact q
          · exact absurd (show (12 : Int32) ≤ nI k from nI_le (a := 12) q (by omega)) c_2
        refine lv_aload_n hx hb dX7_actAt_19 rfl (lv_at hl 0 rfl) ?_
        refine va_get (D := E.1) (ci := 7) (v := .ref s1) (C := RX7) (T := TX7) (N := 5) hx hb hts inX7 hown hK hP 0 rfl rfl 0 (by decide) fl9 (fun _ h9 => h9) rfl dX7_actAt_20 ?_
        refine lv_iload hx hb dX7_actAt_23 (lv_at hl 5 rfl) ?_
        have hi_3 : vp_in (nI k) 12 := vp_in_nI hlt (by decide)
        refine va_iald hx hb hK hP 1 0 rfl rfl hi_3 dX7_actAt_25 ?_
        refine lv_topi (fun x_4 ex_4 => ?_)
        refine lv_iload_n hx hb dX7_actAt_26 rfl (lv_at hl 1 rfl) ?_
        refine lv_iload_n hx hb dX7_actAt_27 rfl (lv_at hl 2 rfl) ?_
        refine lv_iload_n hx hb dX7_actAt_28 rfl (lv_at hl 3 rfl) ?_
        refine lv_iload hx hb dX7_actAt_29 (lv_at hl 4 rfl) ?_
        have hPc := hP.sub (ws' := []) [] rfl
        have hDc := hD.sub (ws' := []) [] (by decide) rfl
        have hFc := va_free (wc := []) hD hS hA [] rfl
        refine va_calli (va_runS (As := [.int x_4, .int a1, .int a2, .int a3, .int a4]) (rest := []) ⟨hx, hb, hml, hown, hts⟩ (c_X7_pick l E x_4 a1 a2 a3 a4 H.size ) (va_cwS 5 hts gX7_actAt_X7_pick rfl rfl rfl hdS_X7_pick ⟨Nat.le_of_ble_eq_true rfl, Nat.le_of_ble_eq_true rfl⟩) ⟨pcW_blind, (pcW_pre hPc hkn hDc hst hS hFc)⟩ rfl rfl hl.1 rfl (lv_room (Nat.le_of_ble_eq_true rfl)) dX7_actAt_31 ⟨Nat.le_of_ble_eq_true rfl, Nat.le_of_ble_eq_true rfl⟩) hS (fun q _ h => hFc q h) hFc (fun r_5 u t H1 locs ht hvm hw_6 hB hz1 hk1 hS => ?_)
        obtain ⟨hP1, hD1⟩ := hB
        rw [ht] at hP1
        try dsimp only at hw_6
        obtain ⟨hP, hD⟩ := va_join (wr := [(h0, .inr (7, [.ref s1, .ref s2, .ref s3, .ref s4, .int sz_])), (s1, .inl (E.2.1 0, 12, .inl r1)), (s2, .inl (E.2.1 1, 12, .inl r2)), (s3, .inl (E.2.1 0, 12, .inl r3)), (s4, .inl (E.2.1 0, 12, .inl r4))]) (w1 := []) hP hD [] [0, 1, 2, 3, 4] rfl rfl (by decide) (by decide) hk1 hFc hP1 hD1
        generalize H1 = H at hP hS ⊢
        have hP : va_P E.1 vwCl [(h0, .inr (7, [.ref s1, .ref s2, .ref s3, .ref s4, .int sz_])), (s1, .inl (E.2.1 0, 12, .inl r1)), (s2, .inl (E.2.1 1, 12, .inl r2)), (s3, .inl (E.2.1 0, 12, .inl r3)), (s4, .inl (E.2.1 0, 12, .inl r4))] H := hP
        have hD : va_D A [(h0, .inr (7, [.ref s1, .ref s2, .ref s3, .ref s4, .int sz_])), (s1, .inl (E.2.1 0, 12, .inl r1)), (s2, .inl (E.2.1 1, 12, .inl r2)), (s3, .inl (E.2.1 0, 12, .inl r3)), (s4, .inl (E.2.1 0, 12, .inl r4))] := hD
        refine lv_istore (lv' := [(6, .int r_5), (0, .ref h0), (1, .int a1), (2, .int a2), (3, .int a3), (4, .int a4), (5, .int (nI k))]) hx hb dX7_actAt_34 hl (by decide) rfl (fun ls hl => ?_)
        refine lv_aload_n hx hb dX7_actAt_36 rfl (lv_at hl 1 rfl) ?_
        refine va_get (D := E.1) (ci := 7) (v := .ref s2) (C := RX7) (T := TX7) (N := 5) hx hb hts inX7 hown hK hP 0 rfl rfl 1 (by decide) fl15 (fun _ h9 => h9) rfl dX7_actAt_37 ?_
        refine lv_iload hx hb dX7_actAt_40 (lv_at hl 6 rfl) ?_
        refine va_zald hx hb hK hP 2 1 rfl rfl hi_3 dX7_actAt_42 ?_
        refine lv_topi (fun x_7 ex_7 => ?_)
        refine lv_if_eq (tgt := 61) hx hb dX7_actAt_43 (by decide) (fun c_8 => ?_) (fun c_8 => ?_)
        · refine lv_iload hx hb dX7_actAt_61 (lv_at hl 0 rfl) ?_
          refine lv_aload_n hx hb dX7_actAt_63 rfl (lv_at hl 1 rfl) ?_
          refine va_get (D := E.1) (ci := 7) (v := .ref s3) (C := RX7) (T := TX7) (N := 5) hx hb hts inX7 hown hK hP 0 rfl rfl 2 (by decide) fl19 (fun _ h9 => h9) rfl dX7_actAt_64 ?_
          refine lv_iload hx hb dX7_actAt_67 (lv_at hl 6 rfl) ?_
          refine va_iald hx hb hK hP 3 0 rfl rfl hi_3 dX7_actAt_69 ?_
          refine lv_topi (fun x_9 ex_9 => ?_)
          refine lv_icmp_ge (tgt := 81) hx hb dX7_actAt_70 (by decide) (fun c_10 => ?_) (fun c_10 => ?_)
          · refine lv_iinc (v := (nI (k + 1))) (lv' := [(5, .int (nI (k + 1))), (6, .int r_5), (0, .ref h0), (1, .int a1), (2, .int a2), (3, .int a3), (4, .int a4)]) hx hb dX7_actAt_81 hl (k := 6) rfl (show nI k + 1 = nI (k + 1) from nI_1 k) (by decide) rfl (fun ls hl => ?_)
            refine lv_goto (tgt := 3) hx hb dX7_actAt_84 (by decide) ?_
            exact ih (k + 1) _ _ _ (by omega) (by omega) (hP.sub [0, 1, 2, 3, 4] rfl) (hD.sub [0, 1, 2, 3, 4] (by decide) rfl) hS (lv_sub hl [2, 3, 4, 5, 6, 0] rfl)
          · exact kk2 k _ _ _ hlt (hP.sub [0, 1, 2, 3, 4] rfl) (hD.sub [0, 1, 2, 3, 4] (by decide) rfl) hS (lv_sub hl [1, 2, 3, 4, 5, 6] rfl)
        · refine lv_iload hx hb dX7_actAt_46 (lv_at hl 0 rfl) ?_
          refine lv_aload_n hx hb dX7_actAt_48 rfl (lv_at hl 1 rfl) ?_
          refine va_get (D := E.1) (ci := 7) (v := .ref s3) (C := RX7) (T := TX7) (N := 5) hx hb hts inX7 hown hK hP 0 rfl rfl 2 (by decide) fl19 (fun _ h9 => h9) rfl dX7_actAt_49 ?_
          refine lv_iload hx hb dX7_actAt_52 (lv_at hl 6 rfl) ?_
          refine va_iald hx hb hK hP 3 0 rfl rfl hi_3 dX7_actAt_54 ?_
          refine lv_topi (fun x_11 ex_11 => ?_)
          refine lv_icmp_le (tgt := 81) hx hb dX7_actAt_55 (by decide) (fun c_12 => ?_) (fun c_12 => ?_)
          · refine lv_iinc (v := (nI (k + 1))) (lv' := [(5, .int (nI (k + 1))), (6, .int r_5), (0, .ref h0), (1, .int a1), (2, .int a2), (3, .int a3), (4, .int a4)]) hx hb dX7_actAt_81 hl (k := 6) rfl (show nI k + 1 = nI (k + 1) from nI_1 k) (by decide) rfl (fun ls hl => ?_)
            refine lv_goto (tgt := 3) hx hb dX7_actAt_84 (by decide) ?_
            exact ih (k + 1) _ _ _ (by omega) (by omega) (hP.sub [0, 1, 2, 3, 4] rfl) (hD.sub [0, 1, 2, 3, 4] (by decide) rfl) hS (lv_sub hl [2, 3, 4, 5, 6, 0] rfl)
          · refine lv_goto (tgt := 73) hx hb dX7_actAt_58 (by decide) ?_
            exact kk2 k _ _ _ hlt (hP.sub [0, 1, 2, 3, 4] rfl) (hD.sub [0, 1, 2, 3, 4] (by decide) rfl) hS (lv_sub hl [1, 2, 3, 4, 5, 6] rfl)
set_option maxHeartbeats 4000000 in
set_option maxRecDepth 100000 in
theorem c_X7_actAt (l : Launch) (E : vE) (h0 : Nat) (s1 : Nat) (s2 : Nat) (s3 : Nat) (s4 : Nat) (sz_ : Int32) (r1 : Nat → Int32) (r2 : Nat → Int32) (r3 : Nat → Int32) (r4 : Nat → Int32) (a1 : Int32) (a2 : Int32) (a3 : Int32) (a4 : Int32) (sz : Nat) : Met l yX7_actAt wsX7_actAt ({ frames := 1, cells := 0, slots := 0, locals := 24 }) (pcW E [.ref h0, .int a1, .int a2, .int a3, .int a4] sz [(h0, .inr (7, [.ref s1, .ref s2, .ref s3, .ref s4, .int sz_])), (s1, .inl (E.2.1 0, 12, .inl r1)), (s2, .inl (E.2.1 1, 12, .inl r2)), (s3, .inl (E.2.1 0, 12, .inl r3)), (s4, .inl (E.2.1 0, 12, .inl r4))]) (va_Qi (fun (r : Int32) (_ : Unit) => True) (fun (_ : Unit) (t : State) => wB E (va_A [(h0, .inr (7, [.ref s1, .ref s2, .ref s3, .ref s4, .int sz_])), (s1, .inl (E.2.1 0, 12, .inl r1)), (s2, .inl (E.2.1 1, 12, .inl r2)), (s3, .inl (E.2.1 0, 12, .inl r3)), (s4, .inl (E.2.1 0, 12, .inl r4))] sz) [(h0, .inr (7, [.ref s1, .ref s2, .ref s3, .ref s4, .int sz_])), (s1, .inl (E.2.1 0, 12, .inl r1)), (s2, .inl (E.2.1 1, 12, .inl r2)), (s3, .inl (E.2.1 0, 12, .inl r3)), (s4, .inl (E.2.1 0, 12, .inl r4))] t) (va_A [(h0, .inr (7, [.ref s1, .ref s2, .ref s3, .ref s4, .int sz_])), (s1, .inl (E.2.1 0, 12, .inl r1)), (s2, .inl (E.2.1 1, 12, .inl r2)), (s3, .inl (E.2.1 0, 12, .inl r3)), (s4, .inl (E.2.1 0, 12, .inl r4))] sz)) 0 0 (va_A [(h0, .inr (7, [.ref s1, .ref s2, .ref s3, .ref s4, .int sz_])), (s1, .inl (E.2.1 0, 12, .inl r1)), (s2, .inl (E.2.1 1, 12, .inl r2)), (s3, .inl (E.2.1 0, 12, .inl r3)), (s4, .inl (E.2.1 0, 12, .inl r4))] sz) := by
  refine Met.ofW (cc := cX7_actAt) (maxL := 7) (ret := (some .int)) (by decide) rfl ?_
  intro p e s m args below meth c s₁ B hml hv
  obtain ⟨rfl, hsz, hP, hkn, hD0, hst⟩ := hv
  have hx := B.exec
  have hb := B.bytes
  have hr := B.returns
  have hts := atoms_spec (ws := wsX7_actAt) B.pre
  have hown : s.vm.findClass RX7 = some m.cls := findClass_of_methodNamed B.named
  have hlocks := B.notSynchronized
  subst hsz
  have hD := hD0.self (sz := s.heap.size)
  have hK := hkn.1
  have hAO := hkn.2.2.1
  generalize hAe : va_A [(h0, .inr (7, [.ref s1, .ref s2, .ref s3, .ref s4, .int sz_])), (s1, .inl (E.2.1 0, 12, .inl r1)), (s2, .inl (E.2.1 1, 12, .inl r2)), (s3, .inl (E.2.1 0, 12, .inl r3)), (s4, .inl (E.2.1 0, 12, .inl r4))] s.heap.size = A at hD hst ⊢
  have hA : ∀ q : Nat, s.heap.size ≤ q → A q := fun q h => by rw [← hAe]; exact Or.inr h
  have hS : va_S A s.heap s.heap [] := va_S.rf
  have hP : va_P E.1 vwCl [(h0, .inr (7, [.ref s1, .ref s2, .ref s3, .ref s4, .int sz_])), (s1, .inl (E.2.1 0, 12, .inl r1)), (s2, .inl (E.2.1 1, 12, .inl r2)), (s3, .inl (E.2.1 0, 12, .inl r3)), (s4, .inl (E.2.1 0, 12, .inl r4))] s.heap := hP
  have hl := lv_entry ([.ref h0, .int a1, .int a2, .int a3, .int a4]) (n := 7) (Nat.le_of_ble_eq_true rfl)
  rw [lg_entry_eq]
  generalize (lg_sl ([.ref h0, .int a1, .int a2, .int a3, .int a4]) ++ List.replicate (7 - (lg_sl ([.ref h0, .int a1, .int a2, .int a3, .int a4])).length) Slot.unset).toArray = ls at hl ⊢
  have hl : lv_has ls 7 [(0, .ref h0), (1, .int a1), (2, .int a2), (3, .int a3), (4, .int a4)] := hl
  have fl9 := hts (.fieldLink RX7 9 "BoatsHome$Rules" "seen" "[I") (by first | exact List.mem_of_getElem? (i := 2) rfl | decide +kernel)
  have fl15 := hts (.fieldLink RX7 15 "BoatsHome$Rules" "above" "[Z") (by first | exact List.mem_of_getElem? (i := 3) rfl | decide +kernel)
  have fl19 := hts (.fieldLink RX7 19 "BoatsHome$Rules" "bounds" "[I") (by first | exact List.mem_of_getElem? (i := 4) rfl | decide +kernel)
  have fl22 := hts (.fieldLink RX7 22 "BoatsHome$Rules" "acts" "[I") (by first | exact List.mem_of_getElem? (i := 5) rfl | decide +kernel)
  have fl25 := hts (.fieldLink RX7 25 "BoatsHome$Rules" "size" "I") (by first | exact List.mem_of_getElem? (i := 1) rfl | decide +kernel)
  have inX7 : ∀ w ∈ u_ws RX7 TX7 5, w ∈ wsX7_actAt := by first | exact fun w h9 => (List.mem_cons_of_mem _ (List.mem_append_right _ h9)) | decide +kernel
  refine lv_iconst (v := 0) hx hb dX7_actAt_0 (by decide) ?_
  refine lv_istore (lv' := [(5, .int 0), (0, .ref h0), (1, .int a1), (2, .int a2), (3, .int a3), (4, .int a4)]) hx hb dX7_actAt_1 hl (by decide) rfl (fun ls hl => ?_)
  have hPl := hP.sub (ws' := [(h0, .inr (7, [.ref s1, .ref s2, .ref s3, .ref s4, .int sz_])), (s1, .inl (E.2.1 0, 12, .inl r1)), (s2, .inl (E.2.1 1, 12, .inl r2)), (s3, .inl (E.2.1 0, 12, .inl r3)), (s4, .inl (E.2.1 0, 12, .inl r4))]) [0, 1, 2, 3, 4] rfl
  have hDl := hD.sub (ws' := [(h0, .inr (7, [.ref s1, .ref s2, .ref s3, .ref s4, .int sz_])), (s1, .inl (E.2.1 0, 12, .inl r1)), (s2, .inl (E.2.1 1, 12, .inl r2)), (s3, .inl (E.2.1 0, 12, .inl r3)), (s4, .inl (E.2.1 0, 12, .inl r4))]) [0, 1, 2, 3, 4] (by decide) rfl
  refine lg_act E h0 s1 s2 s3 s4 sz_ r1 r2 r3 r4 a1 a2 a3 a4 hx hb hml hown hts hkn hst hA  (fun  H locs ls  hP hD hS hl => ?_) (fun w_1 H locs ls hlt hP hD hS hl => ?_) 13 0 _ _ _ (by omega) (by omega) hPl hDl hS (lv_sub hl [1, 2, 3, 4, 5, 0] rfl)
  · have hP : va_P E.1 vwCl [(h0, .inr (7, [.ref s1, .ref s2, .ref s3, .ref s4, .int sz_])), (s1, .inl (E.2.1 0, 12, .inl r1)), (s2, .inl (E.2.1 1, 12, .inl r2)), (s3, .inl (E.2.1 0, 12, .inl r3)), (s4, .inl (E.2.1 0, 12, .inl r4))] H := hP
    have hD : va_D A [(h0, .inr (7, [.ref s1, .ref s2, .ref s3, .ref s4, .int sz_])), (s1, .inl (E.2.1 0, 12, .inl r1)), (s2, .inl (E.2.1 1, 12, .inl r2)), (s3, .inl (E.2.1 0, 12, .inl r3)), (s4, .inl (E.2.1 0, 12, .inl r4))] := hD
    refine lv_iconst (v := (-1)) hx hb dX7_actAt_87 (by decide) ?_
    have hP9 := hP.sub (ws' := [(h0, .inr (7, [.ref s1, .ref s2, .ref s3, .ref s4, .int sz_])), (s1, .inl (E.2.1 0, 12, .inl r1)), (s2, .inl (E.2.1 1, 12, .inl r2)), (s3, .inl (E.2.1 0, 12, .inl r3)), (s4, .inl (E.2.1 0, 12, .inl r4))]) [0, 1, 2, 3, 4] rfl
    have hD9 := hD.sub (ws' := [(h0, .inr (7, [.ref s1, .ref s2, .ref s3, .ref s4, .int sz_])), (s1, .inl (E.2.1 0, 12, .inl r1)), (s2, .inl (E.2.1 1, 12, .inl r2)), (s3, .inl (E.2.1 0, 12, .inl r3)), (s4, .inl (E.2.1 0, 12, .inl r4))]) [0, 1, 2, 3, 4] (by decide) rfl
    exact W.iret (v := (-1)) hx hb hr (fun t ht hW => ⟨⟨(-1), (), rfl, trivial, by rw [ht]; exact hP9, hD9⟩, hS.F ht⟩) hS.2.2 dX7_actAt_88
  · have hP : va_P E.1 vwCl [(h0, .inr (7, [.ref s1, .ref s2, .ref s3, .ref s4, .int sz_])), (s1, .inl (E.2.1 0, 12, .inl r1)), (s2, .inl (E.2.1 1, 12, .inl r2)), (s3, .inl (E.2.1 0, 12, .inl r3)), (s4, .inl (E.2.1 0, 12, .inl r4))] H := hP
    have hD : va_D A [(h0, .inr (7, [.ref s1, .ref s2, .ref s3, .ref s4, .int sz_])), (s1, .inl (E.2.1 0, 12, .inl r1)), (s2, .inl (E.2.1 1, 12, .inl r2)), (s3, .inl (E.2.1 0, 12, .inl r3)), (s4, .inl (E.2.1 0, 12, .inl r4))] := hD
    refine lv_aload_n hx hb dX7_actAt_73 rfl (lv_at hl 0 rfl) ?_
    refine va_get (D := E.1) (ci := 7) (v := .ref s4) (C := RX7) (T := TX7) (N := 5) hx hb hts inX7 hown hK hP 0 rfl rfl 3 (by decide) fl22 (fun _ h9 => h9) rfl dX7_actAt_74 ?_
    refine lv_iload hx hb dX7_actAt_77 (lv_at hl 5 rfl) ?_
    have hi_2 : vp_in (nI w_1) 12 := vp_in_nI hlt (by decide)
    refine va_iald hx hb hK hP 4 0 rfl rfl hi_2 dX7_actAt_79 ?_
    refine lv_topi (fun x_3 ex_3 => ?_)
    have hP9 := hP.sub (ws' := [(h0, .inr (7, [.ref s1, .ref s2, .ref s3, .ref s4, .int sz_])), (s1, .inl (E.2.1 0, 12, .inl r1)), (s2, .inl (E.2.1 1, 12, .inl r2)), (s3, .inl (E.2.1 0, 12, .inl r3)), (s4, .inl (E.2.1 0, 12, .inl r4))]) [0, 1, 2, 3, 4] rfl
    have hD9 := hD.sub (ws' := [(h0, .inr (7, [.ref s1, .ref s2, .ref s3, .ref s4, .int sz_])), (s1, .inl (E.2.1 0, 12, .inl r1)), (s2, .inl (E.2.1 1, 12, .inl r2)), (s3, .inl (E.2.1 0, 12, .inl r3)), (s4, .inl (E.2.1 0, 12, .inl r4))]) [0, 1, 2, 3, 4] (by decide) rfl
    exact W.iret (v := x_3) hx hb hr (fun t ht hW => ⟨⟨x_3, (), rfl, trivial, by rw [ht]; exact hP9, hD9⟩, hS.F ht⟩) hS.2.2 dX7_actAt_80
set_option maxHeartbeats 4000000 in
set_option maxRecDepth 100000 in
theorem c_X8_windAt (l : Launch) (E : vE) (h0 : Nat) (wi : Nat) (po : Nat) (fw : Nat → Int32) (pl : Int32) (da : Int32) (sz : Nat) : Met l yX8_windAt wsX8_windAt ({ frames := 1, cells := 0, slots := 0, locals := 21 }) (pcW E [.ref h0, .int pl, .int da] sz [(h0, .inr (8, [.ref wi, .ref po])), (wi, .inl (E.2.1 0, 288, .inl fw))]) (va_Qi (fun (r : Int32) (_ : Unit) => True) (fun (_ : Unit) (t : State) => wB E (va_A [(h0, .inr (8, [.ref wi, .ref po])), (wi, .inl (E.2.1 0, 288, .inl fw))] sz) [(h0, .inr (8, [.ref wi, .ref po])), (wi, .inl (E.2.1 0, 288, .inl fw))] t) (va_A [(h0, .inr (8, [.ref wi, .ref po])), (wi, .inl (E.2.1 0, 288, .inl fw))] sz)) 0 0 (va_A [(h0, .inr (8, [.ref wi, .ref po])), (wi, .inl (E.2.1 0, 288, .inl fw))] sz) := by
  refine Met.ofW (cc := cX8_windAt) (maxL := 5) (ret := (some .int)) (by decide) rfl ?_
  intro p e s m args below meth c s₁ B hml hv
  obtain ⟨rfl, hsz, hP, hkn, hD0, hst⟩ := hv
  have hx := B.exec
  have hb := B.bytes
  have hr := B.returns
  have hts := atoms_spec (ws := wsX8_windAt) B.pre
  have hown : s.vm.findClass RX8 = some m.cls := findClass_of_methodNamed B.named
  have hlocks := B.notSynchronized
  subst hsz
  have hD := hD0.self (sz := s.heap.size)
  have hK := hkn.1
  have hAO := hkn.2.2.1
  generalize hAe : va_A [(h0, .inr (8, [.ref wi, .ref po])), (wi, .inl (E.2.1 0, 288, .inl fw))] s.heap.size = A at hD hst ⊢
  have hA : ∀ q : Nat, s.heap.size ≤ q → A q := fun q h => by rw [← hAe]; exact Or.inr h
  have hS : va_S A s.heap s.heap [] := va_S.rf
  have hP : va_P E.1 vwCl [(h0, .inr (8, [.ref wi, .ref po])), (wi, .inl (E.2.1 0, 288, .inl fw))] s.heap := hP
  have hl := lv_entry ([.ref h0, .int pl, .int da]) (n := 5) (Nat.le_of_ble_eq_true rfl)
  rw [lg_entry_eq]
  generalize (lg_sl ([.ref h0, .int pl, .int da]) ++ List.replicate (5 - (lg_sl ([.ref h0, .int pl, .int da])).length) Slot.unset).toArray = ls at hl ⊢
  have hl : lv_has ls 5 [(0, .ref h0), (1, .int pl), (2, .int da)] := hl
  have fl9 := hts (.fieldLink RX8 9 "BoatsHome$Sea" "winds" "[I") (by first | exact List.mem_of_getElem? (i := 1) rfl | decide +kernel)
  have inX8 : ∀ w ∈ u_ws RX8 TX8 2, w ∈ wsX8_windAt := by first | exact fun w h9 => (List.mem_cons_of_mem _ (List.mem_append_right _ h9)) | decide +kernel
  refine lv_iload_n hx hb dX8_windAt_0 rfl (lv_at hl 1 rfl) ?_
  have hPc := hP.sub (ws' := []) [] rfl
  have hDc := hD.sub (ws' := []) [] (by decide) rfl
  have hFc := va_free (wc := []) hD hS hA [] rfl
  refine va_calli (va_runSN (As := [.int pl]) (rest := []) ⟨hx, hb, hml, hown, hts⟩ (c_X11_rowOf l E pl s.heap.size ) ⟨va_cnB 1 hts gX8_windAt_X11_rowOf_n18 rfl rfl rfl (hkn.2.1 (.methodLinkNest RX8 18 yX11_rowOf "BoatsHome") (by decide +kernel)) (hts (.initialized RX11) (by first | exact List.mem_of_getElem? (i := 3) rfl | decide +kernel)) (by decide +kernel) ⟨Nat.le_of_ble_eq_true rfl, Nat.le_of_ble_eq_true rfl⟩, hts (.static yX11_rowOf) (by first | exact List.mem_of_getElem? (i := 2) rfl | decide +kernel), trivial⟩ ⟨pcW_blind, (pcW_pre hPc hkn hDc hst hS hFc)⟩ rfl rfl hl.1 rfl (lv_room (Nat.le_of_ble_eq_true rfl)) dX8_windAt_1 ⟨Nat.le_of_ble_eq_true rfl, Nat.le_of_ble_eq_true rfl⟩) hS (fun q _ h => hFc q h) hFc (fun r_1 u t H1 locs ht hvm hw_2 hB hz1 hk1 hS => ?_)
  obtain ⟨hP1, hD1⟩ := hB
  rw [ht] at hP1
  try dsimp only at hw_2
  obtain ⟨hP, hD⟩ := va_join (wr := [(h0, .inr (8, [.ref wi, .ref po])), (wi, .inl (E.2.1 0, 288, .inl fw))]) (w1 := []) hP hD [] [0, 1] rfl rfl (by decide) (by decide) hk1 hFc hP1 hD1
  generalize H1 = H at hP hS ⊢
  have hP : va_P E.1 vwCl [(h0, .inr (8, [.ref wi, .ref po])), (wi, .inl (E.2.1 0, 288, .inl fw))] H := hP
  have hD : va_D A [(h0, .inr (8, [.ref wi, .ref po])), (wi, .inl (E.2.1 0, 288, .inl fw))] := hD
  refine lv_iconst (v := 5) hx hb dX8_windAt_4 (by decide) ?_
  refine lv_idiv hx hb dX8_windAt_5 (by decide) ?_
  refine lv_topi (fun x_3 ex_3 => ?_)
  refine lv_bipush (v := 6) hx hb dX8_windAt_6 (by decide) ?_
  refine lv_imul hx hb dX8_windAt_8 ?_
  refine lv_topi (fun x_4 ex_4 => ?_)
  refine lv_iload_n hx hb dX8_windAt_9 rfl (lv_at hl 1 rfl) ?_
  have hPc := hP.sub (ws' := []) [] rfl
  have hDc := hD.sub (ws' := []) [] (by decide) rfl
  have hFc := va_free (wc := []) hD hS hA [] rfl
  refine va_calli (va_runSN (As := [.int pl]) (rest := [.int x_4]) ⟨hx, hb, hml, hown, hts⟩ (c_X11_columnOf l E pl H.size ) ⟨va_cnB 1 hts gX8_windAt_X11_columnOf_n22 rfl rfl rfl (hkn.2.1 (.methodLinkNest RX8 22 yX11_columnOf "BoatsHome") (by decide +kernel)) (hts (.initialized RX11) (by first | exact List.mem_of_getElem? (i := 3) rfl | decide +kernel)) (by decide +kernel) ⟨Nat.le_of_ble_eq_true rfl, Nat.le_of_ble_eq_true rfl⟩, hts (.static yX11_columnOf) (by first | exact List.mem_of_getElem? (i := 5) rfl | decide +kernel), trivial⟩ ⟨pcW_blind, (pcW_pre hPc hkn hDc hst hS hFc)⟩ rfl rfl hl.1 rfl (lv_room (Nat.le_of_ble_eq_true rfl)) dX8_windAt_10 ⟨Nat.le_of_ble_eq_true rfl, Nat.le_of_ble_eq_true rfl⟩) hS (fun q _ h => hFc q h) hFc (fun r_5 u t H1 locs ht hvm hw_6 hB hz1 hk1 hS => ?_)
  obtain ⟨hP1, hD1⟩ := hB
  rw [ht] at hP1
  try dsimp only at hw_6
  obtain ⟨hP, hD⟩ := va_join (wr := [(h0, .inr (8, [.ref wi, .ref po])), (wi, .inl (E.2.1 0, 288, .inl fw))]) (w1 := []) hP hD [] [0, 1] rfl rfl (by decide) (by decide) hk1 hFc hP1 hD1
  generalize H1 = H at hP hS ⊢
  have hP : va_P E.1 vwCl [(h0, .inr (8, [.ref wi, .ref po])), (wi, .inl (E.2.1 0, 288, .inl fw))] H := hP
  have hD : va_D A [(h0, .inr (8, [.ref wi, .ref po])), (wi, .inl (E.2.1 0, 288, .inl fw))] := hD
  refine lv_iconst (v := 5) hx hb dX8_windAt_13 (by decide) ?_
  refine lv_idiv hx hb dX8_windAt_14 (by decide) ?_
  refine lv_topi (fun x_7 ex_7 => ?_)
  refine lv_iadd hx hb dX8_windAt_15 ?_
  refine lv_topi (fun x_8 ex_8 => ?_)
  refine lv_istore_n (lv' := [(3, .int x_8), (0, .ref h0), (1, .int pl), (2, .int da)]) hx hb dX8_windAt_16 rfl hl (by decide) rfl (fun ls hl => ?_)
  refine lv_iload_n hx hb dX8_windAt_17 rfl (lv_at hl 0 rfl) ?_
  refine lv_bipush (v := 12) hx hb dX8_windAt_18 (by decide) ?_
  refine lv_imul hx hb dX8_windAt_20 ?_
  refine lv_topi (fun x_9 ex_9 => ?_)
  refine lv_iload_n hx hb dX8_windAt_21 rfl (lv_at hl 3 rfl) ?_
  refine lv_sipush (v := 360) hx hb dX8_windAt_22 (by decide) ?_
  refine lv_irem hx hb dX8_windAt_25 (by decide) ?_
  refine lv_topi (fun x_10 ex_10 => ?_)
  refine lv_bipush (v := 30) hx hb dX8_windAt_26 (by decide) ?_
  refine lv_idiv hx hb dX8_windAt_28 (by decide) ?_
  refine lv_topi (fun x_11 ex_11 => ?_)
  refine lv_iadd hx hb dX8_windAt_29 ?_
  refine lv_topi (fun x_12 ex_12 => ?_)
  refine lv_istore (lv' := [(4, .int x_12), (3, .int x_8), (0, .ref h0), (1, .int pl), (2, .int da)]) hx hb dX8_windAt_30 hl (by decide) rfl (fun ls hl => ?_)
  refine lv_iload hx hb dX8_windAt_32 (lv_at hl 0 rfl) ?_
  refine lv_sipush (v := 288) hx hb dX8_windAt_34 (by decide) ?_
  have hPc := hP.sub (ws' := []) [] rfl
  have hDc := hD.sub (ws' := []) [] (by decide) rfl
  have hFc := va_free (wc := []) hD hS hA [] rfl
  refine va_calli (va_runSN (As := [.int x_12, .int 288]) (rest := []) ⟨hx, hb, hml, hown, hts⟩ (c_X11_below l E x_12 288 287 H.size (lt_le (by decide))) ⟨va_cnB 2 hts gX8_windAt_X11_below_n25 rfl rfl rfl (hkn.2.1 (.methodLinkNest RX8 25 yX11_below "BoatsHome") (by decide +kernel)) (hts (.initialized RX11) (by first | exact List.mem_of_getElem? (i := 3) rfl | decide +kernel)) (by decide +kernel) ⟨Nat.le_of_ble_eq_true rfl, Nat.le_of_ble_eq_true rfl⟩, hts (.static yX11_below) (by first | exact List.mem_of_getElem? (i := 7) rfl | decide +kernel), trivial⟩ ⟨pcW_blind, (pcW_pre hPc hkn hDc hst hS hFc)⟩ rfl rfl hl.1 rfl (lv_room (Nat.le_of_ble_eq_true rfl)) dX8_windAt_37 ⟨Nat.le_of_ble_eq_true rfl, Nat.le_of_ble_eq_true rfl⟩) hS (fun q _ h => hFc q h) hFc (fun r_13 u t H1 locs ht hvm hw_14 hB hz1 hk1 hS => ?_)
  obtain ⟨hP1, hD1⟩ := hB
  rw [ht] at hP1
  try dsimp only at hw_14
  obtain ⟨hP, hD⟩ := va_join (wr := [(h0, .inr (8, [.ref wi, .ref po])), (wi, .inl (E.2.1 0, 288, .inl fw))]) (w1 := []) hP hD [] [0, 1] rfl rfl (by decide) (by decide) hk1 hFc hP1 hD1
  generalize H1 = H at hP hS ⊢
  have hP : va_P E.1 vwCl [(h0, .inr (8, [.ref wi, .ref po])), (wi, .inl (E.2.1 0, 288, .inl fw))] H := hP
  have hD : va_D A [(h0, .inr (8, [.ref wi, .ref po])), (wi, .inl (E.2.1 0, 288, .inl fw))] := hD
  refine lv_if_eq (tgt := 53) hx hb dX8_windAt_40 (by decide) (fun c_15 => ?_) (fun c_15 => ?_)
  · have b_16 : inR x_12 0 287 = false := bz hw_14 c_15
    refine lv_iconst (v := 0) hx hb dX8_windAt_53 (by decide) ?_
    have hP9 := hP.sub (ws' := [(h0, .inr (8, [.ref wi, .ref po])), (wi, .inl (E.2.1 0, 288, .inl fw))]) [0, 1] rfl
    have hD9 := hD.sub (ws' := [(h0, .inr (8, [.ref wi, .ref po])), (wi, .inl (E.2.1 0, 288, .inl fw))]) [0, 1] (by decide) rfl
    exact W.iret (v := 0) hx hb hr (fun t ht hW => ⟨⟨0, (), rfl, trivial, by rw [ht]; exact hP9, hD9⟩, hS.F ht⟩) hS.2.2 dX8_windAt_54
  · have b_17 : inR x_12 0 287 = true := bn hw_14 c_15
    refine lv_aload_n hx hb dX8_windAt_43 rfl (lv_at hl 2 rfl) ?_
    refine va_get (D := E.1) (ci := 8) (v := .ref wi) (C := RX8) (T := TX8) (N := 2) hx hb hts inX8 hown hK hP 0 rfl rfl 0 (by decide) fl9 (fun _ h9 => h9) rfl dX8_windAt_44 ?_
    refine lv_iload hx hb dX8_windAt_47 (lv_at hl 0 rfl) ?_
    have hi_18 : vp_in x_12 288 := inR_in (by decide) b_17
    refine va_iald hx hb hK hP 1 0 rfl rfl hi_18 dX8_windAt_49 ?_
    refine lv_topi (fun x_19 ex_19 => ?_)
    refine lv_goto (tgt := 54) hx hb dX8_windAt_50 (by decide) ?_
    have hP9 := hP.sub (ws' := [(h0, .inr (8, [.ref wi, .ref po])), (wi, .inl (E.2.1 0, 288, .inl fw))]) [0, 1] rfl
    have hD9 := hD.sub (ws' := [(h0, .inr (8, [.ref wi, .ref po])), (wi, .inl (E.2.1 0, 288, .inl fw))]) [0, 1] (by decide) rfl
    exact W.iret (v := x_19) hx hb hr (fun t ht hW => ⟨⟨x_19, (), rfl, trivial, by rw [ht]; exact hP9, hD9⟩, hS.F ht⟩) hS.2.2 dX8_windAt_54
set_option maxHeartbeats 4000000 in
set_option maxRecDepth 100000 in
theorem c_X0_broken (l : Launch) (E : vE) (h0 : Nat) (sp : Nat) (pa : Nat) (ru : Nat) (co : Nat) (tr : Nat) (lt : Int32) (fp : Nat → Int32) (sz : Nat) : Met l yX0_broken wsX0_broken ({ frames := 0, cells := 0, slots := 0, locals := 0 }) (pcW E [.ref h0] sz [(h0, .inr (0, [.ref sp, .ref pa, .int lt, .ref ru, .ref co, .ref tr])), (pa, .inl (E.2.1 0, 4, .inl fp))]) (va_Qi (fun (r : Int32) (_ : Unit) => True) (fun (_ : Unit) (t : State) => wB E (va_A [(h0, .inr (0, [.ref sp, .ref pa, .int lt, .ref ru, .ref co, .ref tr])), (pa, .inl (E.2.1 0, 4, .inl fp))] sz) [(h0, .inr (0, [.ref sp, .ref pa, .int lt, .ref ru, .ref co, .ref tr])), (pa, .inl (E.2.1 0, 4, .inl fp))] t) (va_A [(h0, .inr (0, [.ref sp, .ref pa, .int lt, .ref ru, .ref co, .ref tr])), (pa, .inl (E.2.1 0, 4, .inl fp))] sz)) 0 0 (va_A [(h0, .inr (0, [.ref sp, .ref pa, .int lt, .ref ru, .ref co, .ref tr])), (pa, .inl (E.2.1 0, 4, .inl fp))] sz) := by
  refine Met.ofW (cc := cX0_broken) (maxL := 3) (ret := (some .int)) (by decide) rfl ?_
  intro p e s m args below meth c s₁ B hml hv
  obtain ⟨rfl, hsz, hP, hkn, hD0, hst⟩ := hv
  have hx := B.exec
  have hb := B.bytes
  have hr := B.returns
  have hts := atoms_spec (ws := wsX0_broken) B.pre
  have hown : s.vm.findClass RX0 = some m.cls := findClass_of_methodNamed B.named
  have hlocks := B.notSynchronized
  subst hsz
  have hD := hD0.self (sz := s.heap.size)
  have hK := hkn.1
  have hAO := hkn.2.2.1
  generalize hAe : va_A [(h0, .inr (0, [.ref sp, .ref pa, .int lt, .ref ru, .ref co, .ref tr])), (pa, .inl (E.2.1 0, 4, .inl fp))] s.heap.size = A at hD hst ⊢
  have hA : ∀ q : Nat, s.heap.size ≤ q → A q := fun q h => by rw [← hAe]; exact Or.inr h
  have hS : va_S A s.heap s.heap [] := va_S.rf
  have hP : va_P E.1 vwCl [(h0, .inr (0, [.ref sp, .ref pa, .int lt, .ref ru, .ref co, .ref tr])), (pa, .inl (E.2.1 0, 4, .inl fp))] s.heap := hP
  have hl := lv_entry ([.ref h0]) (n := 3) (Nat.le_of_ble_eq_true rfl)
  rw [lg_entry_eq]
  generalize (lg_sl ([.ref h0]) ++ List.replicate (3 - (lg_sl ([.ref h0])).length) Slot.unset).toArray = ls at hl ⊢
  have hl : lv_has ls 3 [(0, .ref h0)] := hl
  have fl15 := hts (.fieldLink RX0 15 "BoatsHome$Boat" "parts" "[I") (by first | exact List.mem_of_getElem? (i := 1) rfl | decide +kernel)
  have inX0 : ∀ w ∈ u_ws RX0 TX0 6, w ∈ wsX0_broken := by first | exact fun w h9 => (List.mem_cons_of_mem _ (List.mem_append_right _ h9)) | decide +kernel
  refine lv_iconst (v := 0) hx hb dX0_broken_0 (by decide) ?_
  refine lv_istore_n (lv' := [(1, .int 0), (0, .ref h0)]) hx hb dX0_broken_1 rfl hl (by decide) rfl (fun ls hl => ?_)
  refine lv_iconst (v := 0) hx hb dX0_broken_2 (by decide) ?_
  refine lv_istore_n (lv' := [(2, .int 0), (1, .int 0), (0, .ref h0)]) hx hb dX0_broken_3 rfl hl (by decide) rfl (fun ls hl => ?_)
  refine lv_iload_n hx hb dX0_broken_4 rfl (lv_at hl 0 rfl) ?_
  refine lv_iconst (v := 4) hx hb dX0_broken_5 (by decide) ?_
  refine lv_icmp_ge (tgt := 32) hx hb dX0_broken_6 (by decide) (fun c9 => absurd c9 (by decide)) (fun _ => ?_)
  refine lv_iload_n hx hb dX0_broken_9 rfl (lv_at hl 1 rfl) ?_
  refine lv_aload_n hx hb dX0_broken_10 rfl (lv_at hl 2 rfl) ?_
  refine va_get (D := E.1) (ci := 0) (v := .ref pa) (C := RX0) (T := TX0) (N := 6) hx hb hts inX0 hown hK hP 0 rfl rfl 1 (by decide) fl15 (fun _ h9 => h9) rfl dX0_broken_11 ?_
  refine lv_iload_n hx hb dX0_broken_14 rfl (lv_at hl 0 rfl) ?_
  refine va_iald hx hb hK hP 1 0 rfl rfl (show vp_in 0 4 from by unfold vp_in; decide) dX0_broken_15 ?_
  refine lv_topi (fun x_1 ex_1 => ?_)
  refine lv_if_ge (tgt := 23) hx hb dX0_broken_16 (by decide) (fun c_2 => ?_) (fun c_2 => ?_)
  · refine lv_iconst (v := 0) hx hb dX0_broken_23 (by decide) ?_
    refine lv_iadd hx hb dX0_broken_24 ?_
    refine lv_topi (fun x_3 ex_3 => ?_)
    obtain rfl : x_3 = 0 := ex_3.trans (by decide +kernel)
    refine lv_istore_n (lv' := [(1, .int 0), (2, .int 0), (0, .ref h0)]) hx hb dX0_broken_25 rfl hl (by decide) rfl (fun ls hl => ?_)
    refine lv_iinc (v := 1) (lv' := [(2, .int 1), (1, .int 0), (0, .ref h0)]) hx hb dX0_broken_26 hl (k := 1) rfl (by decide) (by decide) rfl (fun ls hl => ?_)
    refine lv_goto (tgt := 4) hx hb dX0_broken_29 (by decide) ?_
    refine lv_iload_n hx hb dX0_broken_4 rfl (lv_at hl 0 rfl) ?_
    refine lv_iconst (v := 4) hx hb dX0_broken_5 (by decide) ?_
    refine lv_icmp_ge (tgt := 32) hx hb dX0_broken_6 (by decide) (fun c9 => absurd c9 (by decide)) (fun _ => ?_)
    refine lv_iload_n hx hb dX0_broken_9 rfl (lv_at hl 1 rfl) ?_
    refine lv_aload_n hx hb dX0_broken_10 rfl (lv_at hl 2 rfl) ?_
    refine va_get (D := E.1) (ci := 0) (v := .ref pa) (C := RX0) (T := TX0) (N := 6) hx hb hts inX0 hown hK hP 0 rfl rfl 1 (by decide) fl15 (fun _ h9 => h9) rfl dX0_broken_11 ?_
    refine lv_iload_n hx hb dX0_broken_14 rfl (lv_at hl 0 rfl) ?_
    refine va_iald hx hb hK hP 1 0 rfl rfl (show vp_in 1 4 from by unfold vp_in; decide) dX0_broken_15 ?_
    refine lv_topi (fun x_4 ex_4 => ?_)
    refine lv_if_ge (tgt := 23) hx hb dX0_broken_16 (by decide) (fun c_5 => ?_) (fun c_5 => ?_)
    · refine lv_iconst (v := 0) hx hb dX0_broken_23 (by decide) ?_
      refine lv_iadd hx hb dX0_broken_24 ?_
      refine lv_topi (fun x_6 ex_6 => ?_)
      obtain rfl : x_6 = 0 := ex_6.trans (by decide +kernel)
      refine lv_istore_n (lv' := [(1, .int 0), (2, .int 1), (0, .ref h0)]) hx hb dX0_broken_25 rfl hl (by decide) rfl (fun ls hl => ?_)
      refine lv_iinc (v := 2) (lv' := [(2, .int 2), (1, .int 0), (0, .ref h0)]) hx hb dX0_broken_26 hl (k := 1) rfl (by decide) (by decide) rfl (fun ls hl => ?_)
      refine lv_goto (tgt := 4) hx hb dX0_broken_29 (by decide) ?_
      refine lv_iload_n hx hb dX0_broken_4 rfl (lv_at hl 0 rfl) ?_
      refine lv_iconst (v := 4) hx hb dX0_broken_5 (by decide) ?_
      refine lv_icmp_ge (tgt := 32) hx hb dX0_broken_6 (by decide) (fun c9 => absurd c9 (by decide)) (fun _ => ?_)
      refine lv_iload_n hx hb dX0_broken_9 rfl (lv_at hl 1 rfl) ?_
      refine lv_aload_n hx hb dX0_broken_10 rfl (lv_at hl 2 rfl) ?_
      refine va_get (D := E.1) (ci := 0) (v := .ref pa) (C := RX0) (T := TX0) (N := 6) hx hb hts inX0 hown hK hP 0 rfl rfl 1 (by decide) fl15 (fun _ h9 => h9) rfl dX0_broken_11 ?_
      refine lv_iload_n hx hb dX0_broken_14 rfl (lv_at hl 0 rfl) ?_
      refine va_iald hx hb hK hP 1 0 rfl rfl (show vp_in 2 4 from by unfold vp_in; decide) dX0_broken_15 ?_
      refine lv_topi (fun x_7 ex_7 => ?_)
      refine lv_if_ge (tgt := 23) hx hb dX0_broken_16 (by decide) (fun c_8 => ?_) (fun c_8 => ?_)
      · refine lv_iconst (v := 0) hx hb dX0_broken_23 (by decide) ?_
        refine lv_iadd hx hb dX0_broken_24 ?_
        refine lv_topi (fun x_9 ex_9 => ?_)
        obtain rfl : x_9 = 0 := ex_9.trans (by decide +kernel)
        refine lv_istore_n (lv' := [(1, .int 0), (2, .int 2), (0, .ref h0)]) hx hb dX0_broken_25 rfl hl (by decide) rfl (fun ls hl => ?_)
        refine lv_iinc (v := 3) (lv' := [(2, .int 3), (1, .int 0), (0, .ref h0)]) hx hb dX0_broken_26 hl (k := 1) rfl (by decide) (by decide) rfl (fun ls hl => ?_)
        refine lv_goto (tgt := 4) hx hb dX0_broken_29 (by decide) ?_
        refine lv_iload_n hx hb dX0_broken_4 rfl (lv_at hl 0 rfl) ?_
        refine lv_iconst (v := 4) hx hb dX0_broken_5 (by decide) ?_
        refine lv_icmp_ge (tgt := 32) hx hb dX0_broken_6 (by decide) (fun c9 => absurd c9 (by decide)) (fun _ => ?_)
        refine lv_iload_n hx hb dX0_broken_9 rfl (lv_at hl 1 rfl) ?_
        refine lv_aload_n hx hb dX0_broken_10 rfl (lv_at hl 2 rfl) ?_
        refine va_get (D := E.1) (ci := 0) (v := .ref pa) (C := RX0) (T := TX0) (N := 6) hx hb hts inX0 hown hK hP 0 rfl rfl 1 (by decide) fl15 (fun _ h9 => h9) rfl dX0_broken_11 ?_
        refine lv_iload_n hx hb dX0_broken_14 rfl (lv_at hl 0 rfl) ?_
        refine va_iald hx hb hK hP 1 0 rfl rfl (show vp_in 3 4 from by unfold vp_in; decide) dX0_broken_15 ?_
        refine lv_topi (fun x_10 ex_10 => ?_)
        refine lv_if_ge (tgt := 23) hx hb dX0_broken_16 (by decide) (fun c_11 => ?_) (fun c_11 => ?_)
        · refine lv_iconst (v := 0) hx hb dX0_broken_23 (by decide) ?_
          refine lv_iadd hx hb dX0_broken_24 ?_
          refine lv_topi (fun x_12 ex_12 => ?_)
          obtain rfl : x_12 = 0 := ex_12.trans (by decide +kernel)
          refine lv_istore_n (lv' := [(1, .int 0), (2, .int 3), (0, .ref h0)]) hx hb dX0_broken_25 rfl hl (by decide) rfl (fun ls hl => ?_)
          refine lv_iinc (v := 4) (lv' := [(2, .int 4), (1, .int 0), (0, .ref h0)]) hx hb dX0_broken_26 hl (k := 1) rfl (by decide) (by decide) rfl (fun ls hl => ?_)
          refine lv_goto (tgt := 4) hx hb dX0_broken_29 (by decide) ?_
          refine lv_iload_n hx hb dX0_broken_4 rfl (lv_at hl 0 rfl) ?_
          refine lv_iconst (v := 4) hx hb dX0_broken_5 (by decide) ?_
          refine lv_icmp_ge (tgt := 32) hx hb dX0_broken_6 (by decide) (fun _ => ?_) (fun c9 => absurd c9 (by decide))
          refine lv_iload_n hx hb dX0_broken_32 rfl (lv_at hl 1 rfl) ?_
          have hP9 := hP.sub (ws' := [(h0, .inr (0, [.ref sp, .ref pa, .int lt, .ref ru, .ref co, .ref tr])), (pa, .inl (E.2.1 0, 4, .inl fp))]) [0, 1] rfl
          have hD9 := hD.sub (ws' := [(h0, .inr (0, [.ref sp, .ref pa, .int lt, .ref ru, .ref co, .ref tr])), (pa, .inl (E.2.1 0, 4, .inl fp))]) [0, 1] (by decide) rfl
          exact W.iret (v := 0) hx hb hr (fun t ht hW => ⟨⟨0, (), rfl, trivial, by rw [ht]; exact hP9, hD9⟩, hS.F ht⟩) hS.2.2 dX0_broken_33
        · refine lv_iconst (v := 1) hx hb dX0_broken_19 (by decide) ?_
          refine lv_goto (tgt := 24) hx hb dX0_broken_20 (by decide) ?_
          refine lv_iadd hx hb dX0_broken_24 ?_
          refine lv_topi (fun x_13 ex_13 => ?_)
          obtain rfl : x_13 = 1 := ex_13.trans (by decide +kernel)
          refine lv_istore_n (lv' := [(1, .int 1), (2, .int 3), (0, .ref h0)]) hx hb dX0_broken_25 rfl hl (by decide) rfl (fun ls hl => ?_)
          refine lv_iinc (v := 4) (lv' := [(2, .int 4), (1, .int 1), (0, .ref h0)]) hx hb dX0_broken_26 hl (k := 1) rfl (by decide) (by decide) rfl (fun ls hl => ?_)
          refine lv_goto (tgt := 4) hx hb dX0_broken_29 (by decide) ?_
          refine lv_iload_n hx hb dX0_broken_4 rfl (lv_at hl 0 rfl) ?_
          refine lv_iconst (v := 4) hx hb dX0_broken_5 (by decide) ?_
          refine lv_icmp_ge (tgt := 32) hx hb dX0_broken_6 (by decide) (fun _ => ?_) (fun c9 => absurd c9 (by decide))
          refine lv_iload_n hx hb dX0_broken_32 rfl (lv_at hl 1 rfl) ?_
          have hP9 := hP.sub (ws' := [(h0, .inr (0, [.ref sp, .ref pa, .int lt, .ref ru, .ref co, .ref tr])), (pa, .inl (E.2.1 0, 4, .inl fp))]) [0, 1] rfl
          have hD9 := hD.sub (ws' := [(h0, .inr (0, [.ref sp, .ref pa, .int lt, .ref ru, .ref co, .ref tr])), (pa, .inl (E.2.1 0, 4, .inl fp))]) [0, 1] (by decide) rfl
          exact W.iret (v := 1) hx hb hr (fun t ht hW => ⟨⟨1, (), rfl, trivial, by rw [ht]; exact hP9, hD9⟩, hS.F ht⟩) hS.2.2 dX0_broken_33
      · refine lv_iconst (v := 1) hx hb dX0_broken_19 (by decide) ?_
        refine lv_goto (tgt := 24) hx hb dX0_broken_20 (by decide) ?_
        refine lv_iadd hx hb dX0_broken_24 ?_
        refine lv_topi (fun x_14 ex_14 => ?_)
        obtain rfl : x_14 = 1 := ex_14.trans (by decide +kernel)
        refine lv_istore_n (lv' := [(1, .int 1), (2, .int 2), (0, .ref h0)]) hx hb dX0_broken_25 rfl hl (by decide) rfl (fun ls hl => ?_)
        refine lv_iinc (v := 3) (lv' := [(2, .int 3), (1, .int 1), (0, .ref h0)]) hx hb dX0_broken_26 hl (k := 1) rfl (by decide) (by decide) rfl (fun ls hl => ?_)
        refine lv_goto (tgt := 4) hx hb dX0_broken_29 (by decide) ?_
        refine lv_iload_n hx hb dX0_broken_4 rfl (lv_at hl 0 rfl) ?_
        refine lv_iconst (v := 4) hx hb dX0_broken_5 (by decide) ?_
        refine lv_icmp_ge (tgt := 32) hx hb dX0_broken_6 (by decide) (fun c9 => absurd c9 (by decide)) (fun _ => ?_)
        refine lv_iload_n hx hb dX0_broken_9 rfl (lv_at hl 1 rfl) ?_
        refine lv_aload_n hx hb dX0_broken_10 rfl (lv_at hl 2 rfl) ?_
        refine va_get (D := E.1) (ci := 0) (v := .ref pa) (C := RX0) (T := TX0) (N := 6) hx hb hts inX0 hown hK hP 0 rfl rfl 1 (by decide) fl15 (fun _ h9 => h9) rfl dX0_broken_11 ?_
        refine lv_iload_n hx hb dX0_broken_14 rfl (lv_at hl 0 rfl) ?_
        refine va_iald hx hb hK hP 1 0 rfl rfl (show vp_in 3 4 from by unfold vp_in; decide) dX0_broken_15 ?_
        refine lv_topi (fun x_15 ex_15 => ?_)
        refine lv_if_ge (tgt := 23) hx hb dX0_broken_16 (by decide) (fun c_16 => ?_) (fun c_16 => ?_)
        · refine lv_iconst (v := 0) hx hb dX0_broken_23 (by decide) ?_
          refine lv_iadd hx hb dX0_broken_24 ?_
          refine lv_topi (fun x_17 ex_17 => ?_)
          obtain rfl : x_17 = 1 := ex_17.trans (by decide +kernel)
          refine lv_istore_n (lv' := [(1, .int 1), (2, .int 3), (0, .ref h0)]) hx hb dX0_broken_25 rfl hl (by decide) rfl (fun ls hl => ?_)
          refine lv_iinc (v := 4) (lv' := [(2, .int 4), (1, .int 1), (0, .ref h0)]) hx hb dX0_broken_26 hl (k := 1) rfl (by decide) (by decide) rfl (fun ls hl => ?_)
          refine lv_goto (tgt := 4) hx hb dX0_broken_29 (by decide) ?_
          refine lv_iload_n hx hb dX0_broken_4 rfl (lv_at hl 0 rfl) ?_
          refine lv_iconst (v := 4) hx hb dX0_broken_5 (by decide) ?_
          refine lv_icmp_ge (tgt := 32) hx hb dX0_broken_6 (by decide) (fun _ => ?_) (fun c9 => absurd c9 (by decide))
          refine lv_iload_n hx hb dX0_broken_32 rfl (lv_at hl 1 rfl) ?_
          have hP9 := hP.sub (ws' := [(h0, .inr (0, [.ref sp, .ref pa, .int lt, .ref ru, .ref co, .ref tr])), (pa, .inl (E.2.1 0, 4, .inl fp))]) [0, 1] rfl
          have hD9 := hD.sub (ws' := [(h0, .inr (0, [.ref sp, .ref pa, .int lt, .ref ru, .ref co, .ref tr])), (pa, .inl (E.2.1 0, 4, .inl fp))]) [0, 1] (by decide) rfl
          exact W.iret (v := 1) hx hb hr (fun t ht hW => ⟨⟨1, (), rfl, trivial, by rw [ht]; exact hP9, hD9⟩, hS.F ht⟩) hS.2.2 dX0_broken_33
        · refine lv_iconst (v := 1) hx hb dX0_broken_19 (by decide) ?_
          refine lv_goto (tgt := 24) hx hb dX0_broken_20 (by decide) ?_
          refine lv_iadd hx hb dX0_broken_24 ?_
          refine lv_topi (fun x_18 ex_18 => ?_)
          obtain rfl : x_18 = 2 := ex_18.trans (by decide +kernel)
          refine lv_istore_n (lv' := [(1, .int 2), (2, .int 3), (0, .ref h0)]) hx hb dX0_broken_25 rfl hl (by decide) rfl (fun ls hl => ?_)
          refine lv_iinc (v := 4) (lv' := [(2, .int 4), (1, .int 2), (0, .ref h0)]) hx hb dX0_broken_26 hl (k := 1) rfl (by decide) (by decide) rfl (fun ls hl => ?_)
          refine lv_goto (tgt := 4) hx hb dX0_broken_29 (by decide) ?_
          refine lv_iload_n hx hb dX0_broken_4 rfl (lv_at hl 0 rfl) ?_
          refine lv_iconst (v := 4) hx hb dX0_broken_5 (by decide) ?_
          refine lv_icmp_ge (tgt := 32) hx hb dX0_broken_6 (by decide) (fun _ => ?_) (fun c9 => absurd c9 (by decide))
          refine lv_iload_n hx hb dX0_broken_32 rfl (lv_at hl 1 rfl) ?_
          have hP9 := hP.sub (ws' := [(h0, .inr (0, [.ref sp, .ref pa, .int lt, .ref ru, .ref co, .ref tr])), (pa, .inl (E.2.1 0, 4, .inl fp))]) [0, 1] rfl
          have hD9 := hD.sub (ws' := [(h0, .inr (0, [.ref sp, .ref pa, .int lt, .ref ru, .ref co, .ref tr])), (pa, .inl (E.2.1 0, 4, .inl fp))]) [0, 1] (by decide) rfl
          exact W.iret (v := 2) hx hb hr (fun t ht hW => ⟨⟨2, (), rfl, trivial, by rw [ht]; exact hP9, hD9⟩, hS.F ht⟩) hS.2.2 dX0_broken_33
    · refine lv_iconst (v := 1) hx hb dX0_broken_19 (by decide) ?_
      refine lv_goto (tgt := 24) hx hb dX0_broken_20 (by decide) ?_
      refine lv_iadd hx hb dX0_broken_24 ?_
      refine lv_topi (fun x_19 ex_19 => ?_)
      obtain rfl : x_19 = 1 := ex_19.trans (by decide +kernel)
      refine lv_istore_n (lv' := [(1, .int 1), (2, .int 1), (0, .ref h0)]) hx hb dX0_broken_25 rfl hl (by decide) rfl (fun ls hl => ?_)
      refine lv_iinc (v := 2) (lv' := [(2, .int 2), (1, .int 1), (0, .ref h0)]) hx hb dX0_broken_26 hl (k := 1) rfl (by decide) (by decide) rfl (fun ls hl => ?_)
      refine lv_goto (tgt := 4) hx hb dX0_broken_29 (by decide) ?_
      refine lv_iload_n hx hb dX0_broken_4 rfl (lv_at hl 0 rfl) ?_
      refine lv_iconst (v := 4) hx hb dX0_broken_5 (by decide) ?_
      refine lv_icmp_ge (tgt := 32) hx hb dX0_broken_6 (by decide) (fun c9 => absurd c9 (by decide)) (fun _ => ?_)
      refine lv_iload_n hx hb dX0_broken_9 rfl (lv_at hl 1 rfl) ?_
      refine lv_aload_n hx hb dX0_broken_10 rfl (lv_at hl 2 rfl) ?_
      refine va_get (D := E.1) (ci := 0) (v := .ref pa) (C := RX0) (T := TX0) (N := 6) hx hb hts inX0 hown hK hP 0 rfl rfl 1 (by decide) fl15 (fun _ h9 => h9) rfl dX0_broken_11 ?_
      refine lv_iload_n hx hb dX0_broken_14 rfl (lv_at hl 0 rfl) ?_
      refine va_iald hx hb hK hP 1 0 rfl rfl (show vp_in 2 4 from by unfold vp_in; decide) dX0_broken_15 ?_
      refine lv_topi (fun x_20 ex_20 => ?_)
      refine lv_if_ge (tgt := 23) hx hb dX0_broken_16 (by decide) (fun c_21 => ?_) (fun c_21 => ?_)
      · refine lv_iconst (v := 0) hx hb dX0_broken_23 (by decide) ?_
        refine lv_iadd hx hb dX0_broken_24 ?_
        refine lv_topi (fun x_22 ex_22 => ?_)
        obtain rfl : x_22 = 1 := ex_22.trans (by decide +kernel)
        refine lv_istore_n (lv' := [(1, .int 1), (2, .int 2), (0, .ref h0)]) hx hb dX0_broken_25 rfl hl (by decide) rfl (fun ls hl => ?_)
        refine lv_iinc (v := 3) (lv' := [(2, .int 3), (1, .int 1), (0, .ref h0)]) hx hb dX0_broken_26 hl (k := 1) rfl (by decide) (by decide) rfl (fun ls hl => ?_)
        refine lv_goto (tgt := 4) hx hb dX0_broken_29 (by decide) ?_
        refine lv_iload_n hx hb dX0_broken_4 rfl (lv_at hl 0 rfl) ?_
        refine lv_iconst (v := 4) hx hb dX0_broken_5 (by decide) ?_
        refine lv_icmp_ge (tgt := 32) hx hb dX0_broken_6 (by decide) (fun c9 => absurd c9 (by decide)) (fun _ => ?_)
        refine lv_iload_n hx hb dX0_broken_9 rfl (lv_at hl 1 rfl) ?_
        refine lv_aload_n hx hb dX0_broken_10 rfl (lv_at hl 2 rfl) ?_
        refine va_get (D := E.1) (ci := 0) (v := .ref pa) (C := RX0) (T := TX0) (N := 6) hx hb hts inX0 hown hK hP 0 rfl rfl 1 (by decide) fl15 (fun _ h9 => h9) rfl dX0_broken_11 ?_
        refine lv_iload_n hx hb dX0_broken_14 rfl (lv_at hl 0 rfl) ?_
        refine va_iald hx hb hK hP 1 0 rfl rfl (show vp_in 3 4 from by unfold vp_in; decide) dX0_broken_15 ?_
        refine lv_topi (fun x_23 ex_23 => ?_)
        refine lv_if_ge (tgt := 23) hx hb dX0_broken_16 (by decide) (fun c_24 => ?_) (fun c_24 => ?_)
        · refine lv_iconst (v := 0) hx hb dX0_broken_23 (by decide) ?_
          refine lv_iadd hx hb dX0_broken_24 ?_
          refine lv_topi (fun x_25 ex_25 => ?_)
          obtain rfl : x_25 = 1 := ex_25.trans (by decide +kernel)
          refine lv_istore_n (lv' := [(1, .int 1), (2, .int 3), (0, .ref h0)]) hx hb dX0_broken_25 rfl hl (by decide) rfl (fun ls hl => ?_)
          refine lv_iinc (v := 4) (lv' := [(2, .int 4), (1, .int 1), (0, .ref h0)]) hx hb dX0_broken_26 hl (k := 1) rfl (by decide) (by decide) rfl (fun ls hl => ?_)
          refine lv_goto (tgt := 4) hx hb dX0_broken_29 (by decide) ?_
          refine lv_iload_n hx hb dX0_broken_4 rfl (lv_at hl 0 rfl) ?_
          refine lv_iconst (v := 4) hx hb dX0_broken_5 (by decide) ?_
          refine lv_icmp_ge (tgt := 32) hx hb dX0_broken_6 (by decide) (fun _ => ?_) (fun c9 => absurd c9 (by decide))
          refine lv_iload_n hx hb dX0_broken_32 rfl (lv_at hl 1 rfl) ?_
          have hP9 := hP.sub (ws' := [(h0, .inr (0, [.ref sp, .ref pa, .int lt, .ref ru, .ref co, .ref tr])), (pa, .inl (E.2.1 0, 4, .inl fp))]) [0, 1] rfl
          have hD9 := hD.sub (ws' := [(h0, .inr (0, [.ref sp, .ref pa, .int lt, .ref ru, .ref co, .ref tr])), (pa, .inl (E.2.1 0, 4, .inl fp))]) [0, 1] (by decide) rfl
          exact W.iret (v := 1) hx hb hr (fun t ht hW => ⟨⟨1, (), rfl, trivial, by rw [ht]; exact hP9, hD9⟩, hS.F ht⟩) hS.2.2 dX0_broken_33
        · refine lv_iconst (v := 1) hx hb dX0_broken_19 (by decide) ?_
          refine lv_goto (tgt := 24) hx hb dX0_broken_20 (by decide) ?_
          refine lv_iadd hx hb dX0_broken_24 ?_
          refine lv_topi (fun x_26 ex_26 => ?_)
          obtain rfl : x_26 = 2 := ex_26.trans (by decide +kernel)
          refine lv_istore_n (lv' := [(1, .int 2), (2, .int 3), (0, .ref h0)]) hx hb dX0_broken_25 rfl hl (by decide) rfl (fun ls hl => ?_)
          refine lv_iinc (v := 4) (lv' := [(2, .int 4), (1, .int 2), (0, .ref h0)]) hx hb dX0_broken_26 hl (k := 1) rfl (by decide) (by decide) rfl (fun ls hl => ?_)
          refine lv_goto (tgt := 4) hx hb dX0_broken_29 (by decide) ?_
          refine lv_iload_n hx hb dX0_broken_4 rfl (lv_at hl 0 rfl) ?_
          refine lv_iconst (v := 4) hx hb dX0_broken_5 (by decide) ?_
          refine lv_icmp_ge (tgt := 32) hx hb dX0_broken_6 (by decide) (fun _ => ?_) (fun c9 => absurd c9 (by decide))
          refine lv_iload_n hx hb dX0_broken_32 rfl (lv_at hl 1 rfl) ?_
          have hP9 := hP.sub (ws' := [(h0, .inr (0, [.ref sp, .ref pa, .int lt, .ref ru, .ref co, .ref tr])), (pa, .inl (E.2.1 0, 4, .inl fp))]) [0, 1] rfl
          have hD9 := hD.sub (ws' := [(h0, .inr (0, [.ref sp, .ref pa, .int lt, .ref ru, .ref co, .ref tr])), (pa, .inl (E.2.1 0, 4, .inl fp))]) [0, 1] (by decide) rfl
          exact W.iret (v := 2) hx hb hr (fun t ht hW => ⟨⟨2, (), rfl, trivial, by rw [ht]; exact hP9, hD9⟩, hS.F ht⟩) hS.2.2 dX0_broken_33
      · refine lv_iconst (v := 1) hx hb dX0_broken_19 (by decide) ?_
        refine lv_goto (tgt := 24) hx hb dX0_broken_20 (by decide) ?_
        refine lv_iadd hx hb dX0_broken_24 ?_
        refine lv_topi (fun x_27 ex_27 => ?_)
        obtain rfl : x_27 = 2 := ex_27.trans (by decide +kernel)
        refine lv_istore_n (lv' := [(1, .int 2), (2, .int 2), (0, .ref h0)]) hx hb dX0_broken_25 rfl hl (by decide) rfl (fun ls hl => ?_)
        refine lv_iinc (v := 3) (lv' := [(2, .int 3), (1, .int 2), (0, .ref h0)]) hx hb dX0_broken_26 hl (k := 1) rfl (by decide) (by decide) rfl (fun ls hl => ?_)
        refine lv_goto (tgt := 4) hx hb dX0_broken_29 (by decide) ?_
        refine lv_iload_n hx hb dX0_broken_4 rfl (lv_at hl 0 rfl) ?_
        refine lv_iconst (v := 4) hx hb dX0_broken_5 (by decide) ?_
        refine lv_icmp_ge (tgt := 32) hx hb dX0_broken_6 (by decide) (fun c9 => absurd c9 (by decide)) (fun _ => ?_)
        refine lv_iload_n hx hb dX0_broken_9 rfl (lv_at hl 1 rfl) ?_
        refine lv_aload_n hx hb dX0_broken_10 rfl (lv_at hl 2 rfl) ?_
        refine va_get (D := E.1) (ci := 0) (v := .ref pa) (C := RX0) (T := TX0) (N := 6) hx hb hts inX0 hown hK hP 0 rfl rfl 1 (by decide) fl15 (fun _ h9 => h9) rfl dX0_broken_11 ?_
        refine lv_iload_n hx hb dX0_broken_14 rfl (lv_at hl 0 rfl) ?_
        refine va_iald hx hb hK hP 1 0 rfl rfl (show vp_in 3 4 from by unfold vp_in; decide) dX0_broken_15 ?_
        refine lv_topi (fun x_28 ex_28 => ?_)
        refine lv_if_ge (tgt := 23) hx hb dX0_broken_16 (by decide) (fun c_29 => ?_) (fun c_29 => ?_)
        · refine lv_iconst (v := 0) hx hb dX0_broken_23 (by decide) ?_
          refine lv_iadd hx hb dX0_broken_24 ?_
          refine lv_topi (fun x_30 ex_30 => ?_)
          obtain rfl : x_30 = 2 := ex_30.trans (by decide +kernel)
          refine lv_istore_n (lv' := [(1, .int 2), (2, .int 3), (0, .ref h0)]) hx hb dX0_broken_25 rfl hl (by decide) rfl (fun ls hl => ?_)
          refine lv_iinc (v := 4) (lv' := [(2, .int 4), (1, .int 2), (0, .ref h0)]) hx hb dX0_broken_26 hl (k := 1) rfl (by decide) (by decide) rfl (fun ls hl => ?_)
          refine lv_goto (tgt := 4) hx hb dX0_broken_29 (by decide) ?_
          refine lv_iload_n hx hb dX0_broken_4 rfl (lv_at hl 0 rfl) ?_
          refine lv_iconst (v := 4) hx hb dX0_broken_5 (by decide) ?_
          refine lv_icmp_ge (tgt := 32) hx hb dX0_broken_6 (by decide) (fun _ => ?_) (fun c9 => absurd c9 (by decide))
          refine lv_iload_n hx hb dX0_broken_32 rfl (lv_at hl 1 rfl) ?_
          have hP9 := hP.sub (ws' := [(h0, .inr (0, [.ref sp, .ref pa, .int lt, .ref ru, .ref co, .ref tr])), (pa, .inl (E.2.1 0, 4, .inl fp))]) [0, 1] rfl
          have hD9 := hD.sub (ws' := [(h0, .inr (0, [.ref sp, .ref pa, .int lt, .ref ru, .ref co, .ref tr])), (pa, .inl (E.2.1 0, 4, .inl fp))]) [0, 1] (by decide) rfl
          exact W.iret (v := 2) hx hb hr (fun t ht hW => ⟨⟨2, (), rfl, trivial, by rw [ht]; exact hP9, hD9⟩, hS.F ht⟩) hS.2.2 dX0_broken_33
        · refine lv_iconst (v := 1) hx hb dX0_broken_19 (by decide) ?_
          refine lv_goto (tgt := 24) hx hb dX0_broken_20 (by decide) ?_
          refine lv_iadd hx hb dX0_broken_24 ?_
          refine lv_topi (fun x_31 ex_31 => ?_)
          obtain rfl : x_31 = 3 := ex_31.trans (by decide +kernel)
          refine lv_istore_n (lv' := [(1, .int 3), (2, .int 3), (0, .ref h0)]) hx hb dX0_broken_25 rfl hl (by decide) rfl (fun ls hl => ?_)
          refine lv_iinc (v := 4) (lv' := [(2, .int 4), (1, .int 3), (0, .ref h0)]) hx hb dX0_broken_26 hl (k := 1) rfl (by decide) (by decide) rfl (fun ls hl => ?_)
          refine lv_goto (tgt := 4) hx hb dX0_broken_29 (by decide) ?_
          refine lv_iload_n hx hb dX0_broken_4 rfl (lv_at hl 0 rfl) ?_
          refine lv_iconst (v := 4) hx hb dX0_broken_5 (by decide) ?_
          refine lv_icmp_ge (tgt := 32) hx hb dX0_broken_6 (by decide) (fun _ => ?_) (fun c9 => absurd c9 (by decide))
          refine lv_iload_n hx hb dX0_broken_32 rfl (lv_at hl 1 rfl) ?_
          have hP9 := hP.sub (ws' := [(h0, .inr (0, [.ref sp, .ref pa, .int lt, .ref ru, .ref co, .ref tr])), (pa, .inl (E.2.1 0, 4, .inl fp))]) [0, 1] rfl
          have hD9 := hD.sub (ws' := [(h0, .inr (0, [.ref sp, .ref pa, .int lt, .ref ru, .ref co, .ref tr])), (pa, .inl (E.2.1 0, 4, .inl fp))]) [0, 1] (by decide) rfl
          exact W.iret (v := 3) hx hb hr (fun t ht hW => ⟨⟨3, (), rfl, trivial, by rw [ht]; exact hP9, hD9⟩, hS.F ht⟩) hS.2.2 dX0_broken_33
  · refine lv_iconst (v := 1) hx hb dX0_broken_19 (by decide) ?_
    refine lv_goto (tgt := 24) hx hb dX0_broken_20 (by decide) ?_
    refine lv_iadd hx hb dX0_broken_24 ?_
    refine lv_topi (fun x_32 ex_32 => ?_)
    obtain rfl : x_32 = 1 := ex_32.trans (by decide +kernel)
    refine lv_istore_n (lv' := [(1, .int 1), (2, .int 0), (0, .ref h0)]) hx hb dX0_broken_25 rfl hl (by decide) rfl (fun ls hl => ?_)
    refine lv_iinc (v := 1) (lv' := [(2, .int 1), (1, .int 1), (0, .ref h0)]) hx hb dX0_broken_26 hl (k := 1) rfl (by decide) (by decide) rfl (fun ls hl => ?_)
    refine lv_goto (tgt := 4) hx hb dX0_broken_29 (by decide) ?_
    refine lv_iload_n hx hb dX0_broken_4 rfl (lv_at hl 0 rfl) ?_
    refine lv_iconst (v := 4) hx hb dX0_broken_5 (by decide) ?_
    refine lv_icmp_ge (tgt := 32) hx hb dX0_broken_6 (by decide) (fun c9 => absurd c9 (by decide)) (fun _ => ?_)
    refine lv_iload_n hx hb dX0_broken_9 rfl (lv_at hl 1 rfl) ?_
    refine lv_aload_n hx hb dX0_broken_10 rfl (lv_at hl 2 rfl) ?_
    refine va_get (D := E.1) (ci := 0) (v := .ref pa) (C := RX0) (T := TX0) (N := 6) hx hb hts inX0 hown hK hP 0 rfl rfl 1 (by decide) fl15 (fun _ h9 => h9) rfl dX0_broken_11 ?_
    refine lv_iload_n hx hb dX0_broken_14 rfl (lv_at hl 0 rfl) ?_
    refine va_iald hx hb hK hP 1 0 rfl rfl (show vp_in 1 4 from by unfold vp_in; decide) dX0_broken_15 ?_
    refine lv_topi (fun x_33 ex_33 => ?_)
    refine lv_if_ge (tgt := 23) hx hb dX0_broken_16 (by decide) (fun c_34 => ?_) (fun c_34 => ?_)
    · refine lv_iconst (v := 0) hx hb dX0_broken_23 (by decide) ?_
      refine lv_iadd hx hb dX0_broken_24 ?_
      refine lv_topi (fun x_35 ex_35 => ?_)
      obtain rfl : x_35 = 1 := ex_35.trans (by decide +kernel)
      refine lv_istore_n (lv' := [(1, .int 1), (2, .int 1), (0, .ref h0)]) hx hb dX0_broken_25 rfl hl (by decide) rfl (fun ls hl => ?_)
      refine lv_iinc (v := 2) (lv' := [(2, .int 2), (1, .int 1), (0, .ref h0)]) hx hb dX0_broken_26 hl (k := 1) rfl (by decide) (by decide) rfl (fun ls hl => ?_)
      refine lv_goto (tgt := 4) hx hb dX0_broken_29 (by decide) ?_
      refine lv_iload_n hx hb dX0_broken_4 rfl (lv_at hl 0 rfl) ?_
      refine lv_iconst (v := 4) hx hb dX0_broken_5 (by decide) ?_
      refine lv_icmp_ge (tgt := 32) hx hb dX0_broken_6 (by decide) (fun c9 => absurd c9 (by decide)) (fun _ => ?_)
      refine lv_iload_n hx hb dX0_broken_9 rfl (lv_at hl 1 rfl) ?_
      refine lv_aload_n hx hb dX0_broken_10 rfl (lv_at hl 2 rfl) ?_
      refine va_get (D := E.1) (ci := 0) (v := .ref pa) (C := RX0) (T := TX0) (N := 6) hx hb hts inX0 hown hK hP 0 rfl rfl 1 (by decide) fl15 (fun _ h9 => h9) rfl dX0_broken_11 ?_
      refine lv_iload_n hx hb dX0_broken_14 rfl (lv_at hl 0 rfl) ?_
      refine va_iald hx hb hK hP 1 0 rfl rfl (show vp_in 2 4 from by unfold vp_in; decide) dX0_broken_15 ?_
      refine lv_topi (fun x_36 ex_36 => ?_)
      refine lv_if_ge (tgt := 23) hx hb dX0_broken_16 (by decide) (fun c_37 => ?_) (fun c_37 => ?_)
      · refine lv_iconst (v := 0) hx hb dX0_broken_23 (by decide) ?_
        refine lv_iadd hx hb dX0_broken_24 ?_
        refine lv_topi (fun x_38 ex_38 => ?_)
        obtain rfl : x_38 = 1 := ex_38.trans (by decide +kernel)
        refine lv_istore_n (lv' := [(1, .int 1), (2, .int 2), (0, .ref h0)]) hx hb dX0_broken_25 rfl hl (by decide) rfl (fun ls hl => ?_)
        refine lv_iinc (v := 3) (lv' := [(2, .int 3), (1, .int 1), (0, .ref h0)]) hx hb dX0_broken_26 hl (k := 1) rfl (by decide) (by decide) rfl (fun ls hl => ?_)
        refine lv_goto (tgt := 4) hx hb dX0_broken_29 (by decide) ?_
        refine lv_iload_n hx hb dX0_broken_4 rfl (lv_at hl 0 rfl) ?_
        refine lv_iconst (v := 4) hx hb dX0_broken_5 (by decide) ?_
        refine lv_icmp_ge (tgt := 32) hx hb dX0_broken_6 (by decide) (fun c9 => absurd c9 (by decide)) (fun _ => ?_)
        refine lv_iload_n hx hb dX0_broken_9 rfl (lv_at hl 1 rfl) ?_
        refine lv_aload_n hx hb dX0_broken_10 rfl (lv_at hl 2 rfl) ?_
        refine va_get (D := E.1) (ci := 0) (v := .ref pa) (C := RX0) (T := TX0) (N := 6) hx hb hts inX0 hown hK hP 0 rfl rfl 1 (by decide) fl15 (fun _ h9 => h9) rfl dX0_broken_11 ?_
        refine lv_iload_n hx hb dX0_broken_14 rfl (lv_at hl 0 rfl) ?_
        refine va_iald hx hb hK hP 1 0 rfl rfl (show vp_in 3 4 from by unfold vp_in; decide) dX0_broken_15 ?_
        refine lv_topi (fun x_39 ex_39 => ?_)
        refine lv_if_ge (tgt := 23) hx hb dX0_broken_16 (by decide) (fun c_40 => ?_) (fun c_40 => ?_)
        · refine lv_iconst (v := 0) hx hb dX0_broken_23 (by decide) ?_
          refine lv_iadd hx hb dX0_broken_24 ?_
          refine lv_topi (fun x_41 ex_41 => ?_)
          obtain rfl : x_41 = 1 := ex_41.trans (by decide +kernel)
          refine lv_istore_n (lv' := [(1, .int 1), (2, .int 3), (0, .ref h0)]) hx hb dX0_broken_25 rfl hl (by decide) rfl (fun ls hl => ?_)
          refine lv_iinc (v := 4) (lv' := [(2, .int 4), (1, .int 1), (0, .ref h0)]) hx hb dX0_broken_26 hl (k := 1) rfl (by decide) (by decide) rfl (fun ls hl => ?_)
          refine lv_goto (tgt := 4) hx hb dX0_broken_29 (by decide) ?_
          refine lv_iload_n hx hb dX0_broken_4 rfl (lv_at hl 0 rfl) ?_
          refine lv_iconst (v := 4) hx hb dX0_broken_5 (by decide) ?_
          refine lv_icmp_ge (tgt := 32) hx hb dX0_broken_6 (by decide) (fun _ => ?_) (fun c9 => absurd c9 (by decide))
          refine lv_iload_n hx hb dX0_broken_32 rfl (lv_at hl 1 rfl) ?_
          have hP9 := hP.sub (ws' := [(h0, .inr (0, [.ref sp, .ref pa, .int lt, .ref ru, .ref co, .ref tr])), (pa, .inl (E.2.1 0, 4, .inl fp))]) [0, 1] rfl
          have hD9 := hD.sub (ws' := [(h0, .inr (0, [.ref sp, .ref pa, .int lt, .ref ru, .ref co, .ref tr])), (pa, .inl (E.2.1 0, 4, .inl fp))]) [0, 1] (by decide) rfl
          exact W.iret (v := 1) hx hb hr (fun t ht hW => ⟨⟨1, (), rfl, trivial, by rw [ht]; exact hP9, hD9⟩, hS.F ht⟩) hS.2.2 dX0_broken_33
        · refine lv_iconst (v := 1) hx hb dX0_broken_19 (by decide) ?_
          refine lv_goto (tgt := 24) hx hb dX0_broken_20 (by decide) ?_
          refine lv_iadd hx hb dX0_broken_24 ?_
          refine lv_topi (fun x_42 ex_42 => ?_)
          obtain rfl : x_42 = 2 := ex_42.trans (by decide +kernel)
          refine lv_istore_n (lv' := [(1, .int 2), (2, .int 3), (0, .ref h0)]) hx hb dX0_broken_25 rfl hl (by decide) rfl (fun ls hl => ?_)
          refine lv_iinc (v := 4) (lv' := [(2, .int 4), (1, .int 2), (0, .ref h0)]) hx hb dX0_broken_26 hl (k := 1) rfl (by decide) (by decide) rfl (fun ls hl => ?_)
          refine lv_goto (tgt := 4) hx hb dX0_broken_29 (by decide) ?_
          refine lv_iload_n hx hb dX0_broken_4 rfl (lv_at hl 0 rfl) ?_
          refine lv_iconst (v := 4) hx hb dX0_broken_5 (by decide) ?_
          refine lv_icmp_ge (tgt := 32) hx hb dX0_broken_6 (by decide) (fun _ => ?_) (fun c9 => absurd c9 (by decide))
          refine lv_iload_n hx hb dX0_broken_32 rfl (lv_at hl 1 rfl) ?_
          have hP9 := hP.sub (ws' := [(h0, .inr (0, [.ref sp, .ref pa, .int lt, .ref ru, .ref co, .ref tr])), (pa, .inl (E.2.1 0, 4, .inl fp))]) [0, 1] rfl
          have hD9 := hD.sub (ws' := [(h0, .inr (0, [.ref sp, .ref pa, .int lt, .ref ru, .ref co, .ref tr])), (pa, .inl (E.2.1 0, 4, .inl fp))]) [0, 1] (by decide) rfl
          exact W.iret (v := 2) hx hb hr (fun t ht hW => ⟨⟨2, (), rfl, trivial, by rw [ht]; exact hP9, hD9⟩, hS.F ht⟩) hS.2.2 dX0_broken_33
      · refine lv_iconst (v := 1) hx hb dX0_broken_19 (by decide) ?_
        refine lv_goto (tgt := 24) hx hb dX0_broken_20 (by decide) ?_
        refine lv_iadd hx hb dX0_broken_24 ?_
        refine lv_topi (fun x_43 ex_43 => ?_)
        obtain rfl : x_43 = 2 := ex_43.trans (by decide +kernel)
        refine lv_istore_n (lv' := [(1, .int 2), (2, .int 2), (0, .ref h0)]) hx hb dX0_broken_25 rfl hl (by decide) rfl (fun ls hl => ?_)
        refine lv_iinc (v := 3) (lv' := [(2, .int 3), (1, .int 2), (0, .ref h0)]) hx hb dX0_broken_26 hl (k := 1) rfl (by decide) (by decide) rfl (fun ls hl => ?_)
        refine lv_goto (tgt := 4) hx hb dX0_broken_29 (by decide) ?_
        refine lv_iload_n hx hb dX0_broken_4 rfl (lv_at hl 0 rfl) ?_
        refine lv_iconst (v := 4) hx hb dX0_broken_5 (by decide) ?_
        refine lv_icmp_ge (tgt := 32) hx hb dX0_broken_6 (by decide) (fun c9 => absurd c9 (by decide)) (fun _ => ?_)
        refine lv_iload_n hx hb dX0_broken_9 rfl (lv_at hl 1 rfl) ?_
        refine lv_aload_n hx hb dX0_broken_10 rfl (lv_at hl 2 rfl) ?_
        refine va_get (D := E.1) (ci := 0) (v := .ref pa) (C := RX0) (T := TX0) (N := 6) hx hb hts inX0 hown hK hP 0 rfl rfl 1 (by decide) fl15 (fun _ h9 => h9) rfl dX0_broken_11 ?_
        refine lv_iload_n hx hb dX0_broken_14 rfl (lv_at hl 0 rfl) ?_
        refine va_iald hx hb hK hP 1 0 rfl rfl (show vp_in 3 4 from by unfold vp_in; decide) dX0_broken_15 ?_
        refine lv_topi (fun x_44 ex_44 => ?_)
        refine lv_if_ge (tgt := 23) hx hb dX0_broken_16 (by decide) (fun c_45 => ?_) (fun c_45 => ?_)
        · refine lv_iconst (v := 0) hx hb dX0_broken_23 (by decide) ?_
          refine lv_iadd hx hb dX0_broken_24 ?_
          refine lv_topi (fun x_46 ex_46 => ?_)
          obtain rfl : x_46 = 2 := ex_46.trans (by decide +kernel)
          refine lv_istore_n (lv' := [(1, .int 2), (2, .int 3), (0, .ref h0)]) hx hb dX0_broken_25 rfl hl (by decide) rfl (fun ls hl => ?_)
          refine lv_iinc (v := 4) (lv' := [(2, .int 4), (1, .int 2), (0, .ref h0)]) hx hb dX0_broken_26 hl (k := 1) rfl (by decide) (by decide) rfl (fun ls hl => ?_)
          refine lv_goto (tgt := 4) hx hb dX0_broken_29 (by decide) ?_
          refine lv_iload_n hx hb dX0_broken_4 rfl (lv_at hl 0 rfl) ?_
          refine lv_iconst (v := 4) hx hb dX0_broken_5 (by decide) ?_
          refine lv_icmp_ge (tgt := 32) hx hb dX0_broken_6 (by decide) (fun _ => ?_) (fun c9 => absurd c9 (by decide))
          refine lv_iload_n hx hb dX0_broken_32 rfl (lv_at hl 1 rfl) ?_
          have hP9 := hP.sub (ws' := [(h0, .inr (0, [.ref sp, .ref pa, .int lt, .ref ru, .ref co, .ref tr])), (pa, .inl (E.2.1 0, 4, .inl fp))]) [0, 1] rfl
          have hD9 := hD.sub (ws' := [(h0, .inr (0, [.ref sp, .ref pa, .int lt, .ref ru, .ref co, .ref tr])), (pa, .inl (E.2.1 0, 4, .inl fp))]) [0, 1] (by decide) rfl
          exact W.iret (v := 2) hx hb hr (fun t ht hW => ⟨⟨2, (), rfl, trivial, by rw [ht]; exact hP9, hD9⟩, hS.F ht⟩) hS.2.2 dX0_broken_33
        · refine lv_iconst (v := 1) hx hb dX0_broken_19 (by decide) ?_
          refine lv_goto (tgt := 24) hx hb dX0_broken_20 (by decide) ?_
          refine lv_iadd hx hb dX0_broken_24 ?_
          refine lv_topi (fun x_47 ex_47 => ?_)
          obtain rfl : x_47 = 3 := ex_47.trans (by decide +kernel)
          refine lv_istore_n (lv' := [(1, .int 3), (2, .int 3), (0, .ref h0)]) hx hb dX0_broken_25 rfl hl (by decide) rfl (fun ls hl => ?_)
          refine lv_iinc (v := 4) (lv' := [(2, .int 4), (1, .int 3), (0, .ref h0)]) hx hb dX0_broken_26 hl (k := 1) rfl (by decide) (by decide) rfl (fun ls hl => ?_)
          refine lv_goto (tgt := 4) hx hb dX0_broken_29 (by decide) ?_
          refine lv_iload_n hx hb dX0_broken_4 rfl (lv_at hl 0 rfl) ?_
          refine lv_iconst (v := 4) hx hb dX0_broken_5 (by decide) ?_
          refine lv_icmp_ge (tgt := 32) hx hb dX0_broken_6 (by decide) (fun _ => ?_) (fun c9 => absurd c9 (by decide))
          refine lv_iload_n hx hb dX0_broken_32 rfl (lv_at hl 1 rfl) ?_
          have hP9 := hP.sub (ws' := [(h0, .inr (0, [.ref sp, .ref pa, .int lt, .ref ru, .ref co, .ref tr])), (pa, .inl (E.2.1 0, 4, .inl fp))]) [0, 1] rfl
          have hD9 := hD.sub (ws' := [(h0, .inr (0, [.ref sp, .ref pa, .int lt, .ref ru, .ref co, .ref tr])), (pa, .inl (E.2.1 0, 4, .inl fp))]) [0, 1] (by decide) rfl
          exact W.iret (v := 3) hx hb hr (fun t ht hW => ⟨⟨3, (), rfl, trivial, by rw [ht]; exact hP9, hD9⟩, hS.F ht⟩) hS.2.2 dX0_broken_33
    · refine lv_iconst (v := 1) hx hb dX0_broken_19 (by decide) ?_
      refine lv_goto (tgt := 24) hx hb dX0_broken_20 (by decide) ?_
      refine lv_iadd hx hb dX0_broken_24 ?_
      refine lv_topi (fun x_48 ex_48 => ?_)
      obtain rfl : x_48 = 2 := ex_48.trans (by decide +kernel)
      refine lv_istore_n (lv' := [(1, .int 2), (2, .int 1), (0, .ref h0)]) hx hb dX0_broken_25 rfl hl (by decide) rfl (fun ls hl => ?_)
      refine lv_iinc (v := 2) (lv' := [(2, .int 2), (1, .int 2), (0, .ref h0)]) hx hb dX0_broken_26 hl (k := 1) rfl (by decide) (by decide) rfl (fun ls hl => ?_)
      refine lv_goto (tgt := 4) hx hb dX0_broken_29 (by decide) ?_
      refine lv_iload_n hx hb dX0_broken_4 rfl (lv_at hl 0 rfl) ?_
      refine lv_iconst (v := 4) hx hb dX0_broken_5 (by decide) ?_
      refine lv_icmp_ge (tgt := 32) hx hb dX0_broken_6 (by decide) (fun c9 => absurd c9 (by decide)) (fun _ => ?_)
      refine lv_iload_n hx hb dX0_broken_9 rfl (lv_at hl 1 rfl) ?_
      refine lv_aload_n hx hb dX0_broken_10 rfl (lv_at hl 2 rfl) ?_
      refine va_get (D := E.1) (ci := 0) (v := .ref pa) (C := RX0) (T := TX0) (N := 6) hx hb hts inX0 hown hK hP 0 rfl rfl 1 (by decide) fl15 (fun _ h9 => h9) rfl dX0_broken_11 ?_
      refine lv_iload_n hx hb dX0_broken_14 rfl (lv_at hl 0 rfl) ?_
      refine va_iald hx hb hK hP 1 0 rfl rfl (show vp_in 2 4 from by unfold vp_in; decide) dX0_broken_15 ?_
      refine lv_topi (fun x_49 ex_49 => ?_)
      refine lv_if_ge (tgt := 23) hx hb dX0_broken_16 (by decide) (fun c_50 => ?_) (fun c_50 => ?_)
      · refine lv_iconst (v := 0) hx hb dX0_broken_23 (by decide) ?_
        refine lv_iadd hx hb dX0_broken_24 ?_
        refine lv_topi (fun x_51 ex_51 => ?_)
        obtain rfl : x_51 = 2 := ex_51.trans (by decide +kernel)
        refine lv_istore_n (lv' := [(1, .int 2), (2, .int 2), (0, .ref h0)]) hx hb dX0_broken_25 rfl hl (by decide) rfl (fun ls hl => ?_)
        refine lv_iinc (v := 3) (lv' := [(2, .int 3), (1, .int 2), (0, .ref h0)]) hx hb dX0_broken_26 hl (k := 1) rfl (by decide) (by decide) rfl (fun ls hl => ?_)
        refine lv_goto (tgt := 4) hx hb dX0_broken_29 (by decide) ?_
        refine lv_iload_n hx hb dX0_broken_4 rfl (lv_at hl 0 rfl) ?_
        refine lv_iconst (v := 4) hx hb dX0_broken_5 (by decide) ?_
        refine lv_icmp_ge (tgt := 32) hx hb dX0_broken_6 (by decide) (fun c9 => absurd c9 (by decide)) (fun _ => ?_)
        refine lv_iload_n hx hb dX0_broken_9 rfl (lv_at hl 1 rfl) ?_
        refine lv_aload_n hx hb dX0_broken_10 rfl (lv_at hl 2 rfl) ?_
        refine va_get (D := E.1) (ci := 0) (v := .ref pa) (C := RX0) (T := TX0) (N := 6) hx hb hts inX0 hown hK hP 0 rfl rfl 1 (by decide) fl15 (fun _ h9 => h9) rfl dX0_broken_11 ?_
        refine lv_iload_n hx hb dX0_broken_14 rfl (lv_at hl 0 rfl) ?_
        refine va_iald hx hb hK hP 1 0 rfl rfl (show vp_in 3 4 from by unfold vp_in; decide) dX0_broken_15 ?_
        refine lv_topi (fun x_52 ex_52 => ?_)
        refine lv_if_ge (tgt := 23) hx hb dX0_broken_16 (by decide) (fun c_53 => ?_) (fun c_53 => ?_)
        · refine lv_iconst (v := 0) hx hb dX0_broken_23 (by decide) ?_
          refine lv_iadd hx hb dX0_broken_24 ?_
          refine lv_topi (fun x_54 ex_54 => ?_)
          obtain rfl : x_54 = 2 := ex_54.trans (by decide +kernel)
          refine lv_istore_n (lv' := [(1, .int 2), (2, .int 3), (0, .ref h0)]) hx hb dX0_broken_25 rfl hl (by decide) rfl (fun ls hl => ?_)
          refine lv_iinc (v := 4) (lv' := [(2, .int 4), (1, .int 2), (0, .ref h0)]) hx hb dX0_broken_26 hl (k := 1) rfl (by decide) (by decide) rfl (fun ls hl => ?_)
          refine lv_goto (tgt := 4) hx hb dX0_broken_29 (by decide) ?_
          refine lv_iload_n hx hb dX0_broken_4 rfl (lv_at hl 0 rfl) ?_
          refine lv_iconst (v := 4) hx hb dX0_broken_5 (by decide) ?_
          refine lv_icmp_ge (tgt := 32) hx hb dX0_broken_6 (by decide) (fun _ => ?_) (fun c9 => absurd c9 (by decide))
          refine lv_iload_n hx hb dX0_broken_32 rfl (lv_at hl 1 rfl) ?_
          have hP9 := hP.sub (ws' := [(h0, .inr (0, [.ref sp, .ref pa, .int lt, .ref ru, .ref co, .ref tr])), (pa, .inl (E.2.1 0, 4, .inl fp))]) [0, 1] rfl
          have hD9 := hD.sub (ws' := [(h0, .inr (0, [.ref sp, .ref pa, .int lt, .ref ru, .ref co, .ref tr])), (pa, .inl (E.2.1 0, 4, .inl fp))]) [0, 1] (by decide) rfl
          exact W.iret (v := 2) hx hb hr (fun t ht hW => ⟨⟨2, (), rfl, trivial, by rw [ht]; exact hP9, hD9⟩, hS.F ht⟩) hS.2.2 dX0_broken_33
        · refine lv_iconst (v := 1) hx hb dX0_broken_19 (by decide) ?_
          refine lv_goto (tgt := 24) hx hb dX0_broken_20 (by decide) ?_
          refine lv_iadd hx hb dX0_broken_24 ?_
          refine lv_topi (fun x_55 ex_55 => ?_)
          obtain rfl : x_55 = 3 := ex_55.trans (by decide +kernel)
          refine lv_istore_n (lv' := [(1, .int 3), (2, .int 3), (0, .ref h0)]) hx hb dX0_broken_25 rfl hl (by decide) rfl (fun ls hl => ?_)
          refine lv_iinc (v := 4) (lv' := [(2, .int 4), (1, .int 3), (0, .ref h0)]) hx hb dX0_broken_26 hl (k := 1) rfl (by decide) (by decide) rfl (fun ls hl => ?_)
          refine lv_goto (tgt := 4) hx hb dX0_broken_29 (by decide) ?_
          refine lv_iload_n hx hb dX0_broken_4 rfl (lv_at hl 0 rfl) ?_
          refine lv_iconst (v := 4) hx hb dX0_broken_5 (by decide) ?_
          refine lv_icmp_ge (tgt := 32) hx hb dX0_broken_6 (by decide) (fun _ => ?_) (fun c9 => absurd c9 (by decide))
          refine lv_iload_n hx hb dX0_broken_32 rfl (lv_at hl 1 rfl) ?_
          have hP9 := hP.sub (ws' := [(h0, .inr (0, [.ref sp, .ref pa, .int lt, .ref ru, .ref co, .ref tr])), (pa, .inl (E.2.1 0, 4, .inl fp))]) [0, 1] rfl
          have hD9 := hD.sub (ws' := [(h0, .inr (0, [.ref sp, .ref pa, .int lt, .ref ru, .ref co, .ref tr])), (pa, .inl (E.2.1 0, 4, .inl fp))]) [0, 1] (by decide) rfl
          exact W.iret (v := 3) hx hb hr (fun t ht hW => ⟨⟨3, (), rfl, trivial, by rw [ht]; exact hP9, hD9⟩, hS.F ht⟩) hS.2.2 dX0_broken_33
      · refine lv_iconst (v := 1) hx hb dX0_broken_19 (by decide) ?_
        refine lv_goto (tgt := 24) hx hb dX0_broken_20 (by decide) ?_
        refine lv_iadd hx hb dX0_broken_24 ?_
        refine lv_topi (fun x_56 ex_56 => ?_)
        obtain rfl : x_56 = 3 := ex_56.trans (by decide +kernel)
        refine lv_istore_n (lv' := [(1, .int 3), (2, .int 2), (0, .ref h0)]) hx hb dX0_broken_25 rfl hl (by decide) rfl (fun ls hl => ?_)
        refine lv_iinc (v := 3) (lv' := [(2, .int 3), (1, .int 3), (0, .ref h0)]) hx hb dX0_broken_26 hl (k := 1) rfl (by decide) (by decide) rfl (fun ls hl => ?_)
        refine lv_goto (tgt := 4) hx hb dX0_broken_29 (by decide) ?_
        refine lv_iload_n hx hb dX0_broken_4 rfl (lv_at hl 0 rfl) ?_
        refine lv_iconst (v := 4) hx hb dX0_broken_5 (by decide) ?_
        refine lv_icmp_ge (tgt := 32) hx hb dX0_broken_6 (by decide) (fun c9 => absurd c9 (by decide)) (fun _ => ?_)
        refine lv_iload_n hx hb dX0_broken_9 rfl (lv_at hl 1 rfl) ?_
        refine lv_aload_n hx hb dX0_broken_10 rfl (lv_at hl 2 rfl) ?_
        refine va_get (D := E.1) (ci := 0) (v := .ref pa) (C := RX0) (T := TX0) (N := 6) hx hb hts inX0 hown hK hP 0 rfl rfl 1 (by decide) fl15 (fun _ h9 => h9) rfl dX0_broken_11 ?_
        refine lv_iload_n hx hb dX0_broken_14 rfl (lv_at hl 0 rfl) ?_
        refine va_iald hx hb hK hP 1 0 rfl rfl (show vp_in 3 4 from by unfold vp_in; decide) dX0_broken_15 ?_
        refine lv_topi (fun x_57 ex_57 => ?_)
        refine lv_if_ge (tgt := 23) hx hb dX0_broken_16 (by decide) (fun c_58 => ?_) (fun c_58 => ?_)
        · refine lv_iconst (v := 0) hx hb dX0_broken_23 (by decide) ?_
          refine lv_iadd hx hb dX0_broken_24 ?_
          refine lv_topi (fun x_59 ex_59 => ?_)
          obtain rfl : x_59 = 3 := ex_59.trans (by decide +kernel)
          refine lv_istore_n (lv' := [(1, .int 3), (2, .int 3), (0, .ref h0)]) hx hb dX0_broken_25 rfl hl (by decide) rfl (fun ls hl => ?_)
          refine lv_iinc (v := 4) (lv' := [(2, .int 4), (1, .int 3), (0, .ref h0)]) hx hb dX0_broken_26 hl (k := 1) rfl (by decide) (by decide) rfl (fun ls hl => ?_)
          refine lv_goto (tgt := 4) hx hb dX0_broken_29 (by decide) ?_
          refine lv_iload_n hx hb dX0_broken_4 rfl (lv_at hl 0 rfl) ?_
          refine lv_iconst (v := 4) hx hb dX0_broken_5 (by decide) ?_
          refine lv_icmp_ge (tgt := 32) hx hb dX0_broken_6 (by decide) (fun _ => ?_) (fun c9 => absurd c9 (by decide))
          refine lv_iload_n hx hb dX0_broken_32 rfl (lv_at hl 1 rfl) ?_
          have hP9 := hP.sub (ws' := [(h0, .inr (0, [.ref sp, .ref pa, .int lt, .ref ru, .ref co, .ref tr])), (pa, .inl (E.2.1 0, 4, .inl fp))]) [0, 1] rfl
          have hD9 := hD.sub (ws' := [(h0, .inr (0, [.ref sp, .ref pa, .int lt, .ref ru, .ref co, .ref tr])), (pa, .inl (E.2.1 0, 4, .inl fp))]) [0, 1] (by decide) rfl
          exact W.iret (v := 3) hx hb hr (fun t ht hW => ⟨⟨3, (), rfl, trivial, by rw [ht]; exact hP9, hD9⟩, hS.F ht⟩) hS.2.2 dX0_broken_33
        · refine lv_iconst (v := 1) hx hb dX0_broken_19 (by decide) ?_
          refine lv_goto (tgt := 24) hx hb dX0_broken_20 (by decide) ?_
          refine lv_iadd hx hb dX0_broken_24 ?_
          refine lv_topi (fun x_60 ex_60 => ?_)
          obtain rfl : x_60 = 4 := ex_60.trans (by decide +kernel)
          refine lv_istore_n (lv' := [(1, .int 4), (2, .int 3), (0, .ref h0)]) hx hb dX0_broken_25 rfl hl (by decide) rfl (fun ls hl => ?_)
          refine lv_iinc (v := 4) (lv' := [(2, .int 4), (1, .int 4), (0, .ref h0)]) hx hb dX0_broken_26 hl (k := 1) rfl (by decide) (by decide) rfl (fun ls hl => ?_)
          refine lv_goto (tgt := 4) hx hb dX0_broken_29 (by decide) ?_
          refine lv_iload_n hx hb dX0_broken_4 rfl (lv_at hl 0 rfl) ?_
          refine lv_iconst (v := 4) hx hb dX0_broken_5 (by decide) ?_
          refine lv_icmp_ge (tgt := 32) hx hb dX0_broken_6 (by decide) (fun _ => ?_) (fun c9 => absurd c9 (by decide))
          refine lv_iload_n hx hb dX0_broken_32 rfl (lv_at hl 1 rfl) ?_
          have hP9 := hP.sub (ws' := [(h0, .inr (0, [.ref sp, .ref pa, .int lt, .ref ru, .ref co, .ref tr])), (pa, .inl (E.2.1 0, 4, .inl fp))]) [0, 1] rfl
          have hD9 := hD.sub (ws' := [(h0, .inr (0, [.ref sp, .ref pa, .int lt, .ref ru, .ref co, .ref tr])), (pa, .inl (E.2.1 0, 4, .inl fp))]) [0, 1] (by decide) rfl
          exact W.iret (v := 4) hx hb hr (fun t ht hW => ⟨⟨4, (), rfl, trivial, by rw [ht]; exact hP9, hD9⟩, hS.F ht⟩) hS.2.2 dX0_broken_33
set_option maxHeartbeats 4000000 in
set_option maxRecDepth 100000 in
theorem c_X0_wear (l : Launch) (E : vE) (h0 : Nat) (sp : Nat) (pa : Nat) (ru : Nat) (co : Nat) (tr : Nat) (lt : Int32) (fp : Nat → Int32) (sz : Nat) : Met l yX0_wear wsX0_wear ({ frames := 1, cells := 0, slots := 0, locals := 24 }) (pcW E [.ref h0] sz [(h0, .inr (0, [.ref sp, .ref pa, .int lt, .ref ru, .ref co, .ref tr])), (pa, .inl (E.2.1 0, 4, .inl fp))]) (va_Qv (fun (fp2 : (Nat → Int32)) => True) (fun (fp2 : (Nat → Int32)) (t : State) => wB E (va_A [(h0, .inr (0, [.ref sp, .ref pa, .int lt, .ref ru, .ref co, .ref tr])), (pa, .inl (E.2.1 0, 4, .inl fp))] sz) [(h0, .inr (0, [.ref sp, .ref pa, .int lt, .ref ru, .ref co, .ref tr])), (pa, .inl (E.2.1 0, 4, .inl fp2))] t) (va_A [(h0, .inr (0, [.ref sp, .ref pa, .int lt, .ref ru, .ref co, .ref tr])), (pa, .inl (E.2.1 0, 4, .inl fp))] sz)) 0 0 (va_A [(h0, .inr (0, [.ref sp, .ref pa, .int lt, .ref ru, .ref co, .ref tr])), (pa, .inl (E.2.1 0, 4, .inl fp))] sz) := by
  refine Met.ofW (cc := cX0_wear) (maxL := 2) (ret := none) (by decide) rfl ?_
  intro p e s m args below meth c s₁ B hml hv
  obtain ⟨rfl, hsz, hP, hkn, hD0, hst⟩ := hv
  have hx := B.exec
  have hb := B.bytes
  have hr := B.returns
  have hts := atoms_spec (ws := wsX0_wear) B.pre
  have hown : s.vm.findClass RX0 = some m.cls := findClass_of_methodNamed B.named
  have hlocks := B.notSynchronized
  subst hsz
  have hD := hD0.self (sz := s.heap.size)
  have hK := hkn.1
  have hAO := hkn.2.2.1
  generalize hAe : va_A [(h0, .inr (0, [.ref sp, .ref pa, .int lt, .ref ru, .ref co, .ref tr])), (pa, .inl (E.2.1 0, 4, .inl fp))] s.heap.size = A at hD hst ⊢
  have hA : ∀ q : Nat, s.heap.size ≤ q → A q := fun q h => by rw [← hAe]; exact Or.inr h
  have hS : va_S A s.heap s.heap [] := va_S.rf
  have hP : va_P E.1 vwCl [(h0, .inr (0, [.ref sp, .ref pa, .int lt, .ref ru, .ref co, .ref tr])), (pa, .inl (E.2.1 0, 4, .inl fp))] s.heap := hP
  have hl := lv_entry ([.ref h0]) (n := 2) (Nat.le_of_ble_eq_true rfl)
  rw [lg_entry_eq]
  generalize (lg_sl ([.ref h0]) ++ List.replicate (2 - (lg_sl ([.ref h0])).length) Slot.unset).toArray = ls at hl ⊢
  have hl : lv_has ls 2 [(0, .ref h0)] := hl
  have fl15 := hts (.fieldLink RX0 15 "BoatsHome$Boat" "parts" "[I") (by first | exact List.mem_of_getElem? (i := 1) rfl | decide +kernel)
  have inX0 : ∀ w ∈ u_ws RX0 TX0 6, w ∈ wsX0_wear := by first | exact fun w h9 => (List.mem_cons_of_mem _ (List.mem_append_right _ h9)) | decide +kernel
  refine lv_iconst (v := 0) hx hb dX0_wear_0 (by decide) ?_
  refine lv_istore_n (lv' := [(1, .int 0), (0, .ref h0)]) hx hb dX0_wear_1 rfl hl (by decide) rfl (fun ls hl => ?_)
  refine lv_iload_n hx hb dX0_wear_2 rfl (lv_at hl 0 rfl) ?_
  refine lv_iconst (v := 4) hx hb dX0_wear_3 (by decide) ?_
  refine lv_icmp_ge (tgt := 31) hx hb dX0_wear_4 (by decide) (fun c9 => absurd c9 (by decide)) (fun _ => ?_)
  refine lv_aload_n hx hb dX0_wear_7 rfl (lv_at hl 1 rfl) ?_
  refine va_get (D := E.1) (ci := 0) (v := .ref pa) (C := RX0) (T := TX0) (N := 6) hx hb hts inX0 hown hK hP 0 rfl rfl 1 (by decide) fl15 (fun _ h9 => h9) rfl dX0_wear_8 ?_
  refine lv_iload_n hx hb dX0_wear_11 rfl (lv_at hl 0 rfl) ?_
  refine lv_aload_n hx hb dX0_wear_12 rfl (lv_at hl 1 rfl) ?_
  refine va_get (D := E.1) (ci := 0) (v := .ref pa) (C := RX0) (T := TX0) (N := 6) hx hb hts inX0 hown hK hP 0 rfl rfl 1 (by decide) fl15 (fun _ h9 => h9) rfl dX0_wear_13 ?_
  refine lv_iload_n hx hb dX0_wear_16 rfl (lv_at hl 0 rfl) ?_
  refine va_iald hx hb hK hP 1 0 rfl rfl (show vp_in 0 4 from by unfold vp_in; decide) dX0_wear_17 ?_
  refine lv_topi (fun x_1 ex_1 => ?_)
  refine lv_iconst (v := 1) hx hb dX0_wear_18 (by decide) ?_
  refine lv_isub hx hb dX0_wear_19 ?_
  refine lv_topi (fun x_2 ex_2 => ?_)
  refine lv_iconst (v := (-1)) hx hb dX0_wear_20 (by decide) ?_
  refine va_mmax hx hb (by rw [hml]; exact hl.1.symm) hown (hts (.methodLink RX0 43 Lib.Math.max.name) (by first | exact List.mem_of_getElem? (i := 2) rfl | decide +kernel)) (hts (.static Lib.Math.max.name) (by first | exact List.mem_of_getElem? (i := 3) rfl | decide +kernel)) (hts (.initialized "java/lang/Math") (by first | exact List.mem_of_getElem? (i := 4) rfl | decide +kernel)) (hts (.code Lib.Math.max.name Lib.Math.max.code 2 (some .int)) (by first | exact List.mem_of_getElem? (i := 5) rfl | decide +kernel)) (Nat.le_of_ble_eq_true rfl) (Nat.le_of_ble_eq_true rfl) (Nat.le_of_ble_eq_true rfl) (Nat.le_of_ble_eq_true rfl) dX0_wear_21 ?_
  refine lv_topi (fun x_3 ex_3 => ?_)
  refine va_iast hx hb hK hP hD hS 1 0 rfl rfl (show vp_in 0 4 from by unfold vp_in; decide) dX0_wear_24 (fun H locs hP hD hS => ?_)
  have hP : va_P E.1 vwCl [(h0, .inr (0, [.ref sp, .ref pa, .int lt, .ref ru, .ref co, .ref tr])), (pa, .inl (E.2.1 0, 4, .inl (upd fp (Int32.toNatClampNeg 0) x_3)))] H := hP
  have hD : va_D A [(h0, .inr (0, [.ref sp, .ref pa, .int lt, .ref ru, .ref co, .ref tr])), (pa, .inl (E.2.1 0, 4, .inl (upd fp (Int32.toNatClampNeg 0) x_3)))] := hD
  obtain ⟨f_4, ef_4⟩ : ∃ g : Nat → Int32, g = upd fp (Int32.toNatClampNeg 0) x_3 := ⟨_, rfl⟩
  rw [← ef_4] at hP hD
  refine lv_iinc (v := 1) (lv' := [(1, .int 1), (0, .ref h0)]) hx hb dX0_wear_25 hl (k := 0) rfl (by decide) (by decide) rfl (fun ls hl => ?_)
  refine lv_goto (tgt := 2) hx hb dX0_wear_28 (by decide) ?_
  refine lv_iload_n hx hb dX0_wear_2 rfl (lv_at hl 0 rfl) ?_
  refine lv_iconst (v := 4) hx hb dX0_wear_3 (by decide) ?_
  refine lv_icmp_ge (tgt := 31) hx hb dX0_wear_4 (by decide) (fun c9 => absurd c9 (by decide)) (fun _ => ?_)
  refine lv_aload_n hx hb dX0_wear_7 rfl (lv_at hl 1 rfl) ?_
  refine va_get (D := E.1) (ci := 0) (v := .ref pa) (C := RX0) (T := TX0) (N := 6) hx hb hts inX0 hown hK hP 0 rfl rfl 1 (by decide) fl15 (fun _ h9 => h9) rfl dX0_wear_8 ?_
  refine lv_iload_n hx hb dX0_wear_11 rfl (lv_at hl 0 rfl) ?_
  refine lv_aload_n hx hb dX0_wear_12 rfl (lv_at hl 1 rfl) ?_
  refine va_get (D := E.1) (ci := 0) (v := .ref pa) (C := RX0) (T := TX0) (N := 6) hx hb hts inX0 hown hK hP 0 rfl rfl 1 (by decide) fl15 (fun _ h9 => h9) rfl dX0_wear_13 ?_
  refine lv_iload_n hx hb dX0_wear_16 rfl (lv_at hl 0 rfl) ?_
  refine va_iald hx hb hK hP 1 0 rfl rfl (show vp_in 1 4 from by unfold vp_in; decide) dX0_wear_17 ?_
  refine lv_topi (fun x_5 ex_5 => ?_)
  refine lv_iconst (v := 1) hx hb dX0_wear_18 (by decide) ?_
  refine lv_isub hx hb dX0_wear_19 ?_
  refine lv_topi (fun x_6 ex_6 => ?_)
  refine lv_iconst (v := (-1)) hx hb dX0_wear_20 (by decide) ?_
  refine va_mmax hx hb (by rw [hml]; exact hl.1.symm) hown (hts (.methodLink RX0 43 Lib.Math.max.name) (by first | exact List.mem_of_getElem? (i := 2) rfl | decide +kernel)) (hts (.static Lib.Math.max.name) (by first | exact List.mem_of_getElem? (i := 3) rfl | decide +kernel)) (hts (.initialized "java/lang/Math") (by first | exact List.mem_of_getElem? (i := 4) rfl | decide +kernel)) (hts (.code Lib.Math.max.name Lib.Math.max.code 2 (some .int)) (by first | exact List.mem_of_getElem? (i := 5) rfl | decide +kernel)) (Nat.le_of_ble_eq_true rfl) (Nat.le_of_ble_eq_true rfl) (Nat.le_of_ble_eq_true rfl) (Nat.le_of_ble_eq_true rfl) dX0_wear_21 ?_
  refine lv_topi (fun x_7 ex_7 => ?_)
  refine va_iast hx hb hK hP hD hS 1 0 rfl rfl (show vp_in 1 4 from by unfold vp_in; decide) dX0_wear_24 (fun H locs hP hD hS => ?_)
  have hP : va_P E.1 vwCl [(h0, .inr (0, [.ref sp, .ref pa, .int lt, .ref ru, .ref co, .ref tr])), (pa, .inl (E.2.1 0, 4, .inl (upd f_4 (Int32.toNatClampNeg 1) x_7)))] H := hP
  have hD : va_D A [(h0, .inr (0, [.ref sp, .ref pa, .int lt, .ref ru, .ref co, .ref tr])), (pa, .inl (E.2.1 0, 4, .inl (upd f_4 (Int32.toNatClampNeg 1) x_7)))] := hD
  obtain ⟨f_8, ef_8⟩ : ∃ g : Nat → Int32, g = upd f_4 (Int32.toNatClampNeg 1) x_7 := ⟨_, rfl⟩
  rw [← ef_8] at hP hD
  refine lv_iinc (v := 2) (lv' := [(1, .int 2), (0, .ref h0)]) hx hb dX0_wear_25 hl (k := 0) rfl (by decide) (by decide) rfl (fun ls hl => ?_)
  refine lv_goto (tgt := 2) hx hb dX0_wear_28 (by decide) ?_
  refine lv_iload_n hx hb dX0_wear_2 rfl (lv_at hl 0 rfl) ?_
  refine lv_iconst (v := 4) hx hb dX0_wear_3 (by decide) ?_
  refine lv_icmp_ge (tgt := 31) hx hb dX0_wear_4 (by decide) (fun c9 => absurd c9 (by decide)) (fun _ => ?_)
  refine lv_aload_n hx hb dX0_wear_7 rfl (lv_at hl 1 rfl) ?_
  refine va_get (D := E.1) (ci := 0) (v := .ref pa) (C := RX0) (T := TX0) (N := 6) hx hb hts inX0 hown hK hP 0 rfl rfl 1 (by decide) fl15 (fun _ h9 => h9) rfl dX0_wear_8 ?_
  refine lv_iload_n hx hb dX0_wear_11 rfl (lv_at hl 0 rfl) ?_
  refine lv_aload_n hx hb dX0_wear_12 rfl (lv_at hl 1 rfl) ?_
  refine va_get (D := E.1) (ci := 0) (v := .ref pa) (C := RX0) (T := TX0) (N := 6) hx hb hts inX0 hown hK hP 0 rfl rfl 1 (by decide) fl15 (fun _ h9 => h9) rfl dX0_wear_13 ?_
  refine lv_iload_n hx hb dX0_wear_16 rfl (lv_at hl 0 rfl) ?_
  refine va_iald hx hb hK hP 1 0 rfl rfl (show vp_in 2 4 from by unfold vp_in; decide) dX0_wear_17 ?_
  refine lv_topi (fun x_9 ex_9 => ?_)
  refine lv_iconst (v := 1) hx hb dX0_wear_18 (by decide) ?_
  refine lv_isub hx hb dX0_wear_19 ?_
  refine lv_topi (fun x_10 ex_10 => ?_)
  refine lv_iconst (v := (-1)) hx hb dX0_wear_20 (by decide) ?_
  refine va_mmax hx hb (by rw [hml]; exact hl.1.symm) hown (hts (.methodLink RX0 43 Lib.Math.max.name) (by first | exact List.mem_of_getElem? (i := 2) rfl | decide +kernel)) (hts (.static Lib.Math.max.name) (by first | exact List.mem_of_getElem? (i := 3) rfl | decide +kernel)) (hts (.initialized "java/lang/Math") (by first | exact List.mem_of_getElem? (i := 4) rfl | decide +kernel)) (hts (.code Lib.Math.max.name Lib.Math.max.code 2 (some .int)) (by first | exact List.mem_of_getElem? (i := 5) rfl | decide +kernel)) (Nat.le_of_ble_eq_true rfl) (Nat.le_of_ble_eq_true rfl) (Nat.le_of_ble_eq_true rfl) (Nat.le_of_ble_eq_true rfl) dX0_wear_21 ?_
  refine lv_topi (fun x_11 ex_11 => ?_)
  refine va_iast hx hb hK hP hD hS 1 0 rfl rfl (show vp_in 2 4 from by unfold vp_in; decide) dX0_wear_24 (fun H locs hP hD hS => ?_)
  have hP : va_P E.1 vwCl [(h0, .inr (0, [.ref sp, .ref pa, .int lt, .ref ru, .ref co, .ref tr])), (pa, .inl (E.2.1 0, 4, .inl (upd f_8 (Int32.toNatClampNeg 2) x_11)))] H := hP
  have hD : va_D A [(h0, .inr (0, [.ref sp, .ref pa, .int lt, .ref ru, .ref co, .ref tr])), (pa, .inl (E.2.1 0, 4, .inl (upd f_8 (Int32.toNatClampNeg 2) x_11)))] := hD
  obtain ⟨f_12, ef_12⟩ : ∃ g : Nat → Int32, g = upd f_8 (Int32.toNatClampNeg 2) x_11 := ⟨_, rfl⟩
  rw [← ef_12] at hP hD
  refine lv_iinc (v := 3) (lv' := [(1, .int 3), (0, .ref h0)]) hx hb dX0_wear_25 hl (k := 0) rfl (by decide) (by decide) rfl (fun ls hl => ?_)
  refine lv_goto (tgt := 2) hx hb dX0_wear_28 (by decide) ?_
  refine lv_iload_n hx hb dX0_wear_2 rfl (lv_at hl 0 rfl) ?_
  refine lv_iconst (v := 4) hx hb dX0_wear_3 (by decide) ?_
  refine lv_icmp_ge (tgt := 31) hx hb dX0_wear_4 (by decide) (fun c9 => absurd c9 (by decide)) (fun _ => ?_)
  refine lv_aload_n hx hb dX0_wear_7 rfl (lv_at hl 1 rfl) ?_
  refine va_get (D := E.1) (ci := 0) (v := .ref pa) (C := RX0) (T := TX0) (N := 6) hx hb hts inX0 hown hK hP 0 rfl rfl 1 (by decide) fl15 (fun _ h9 => h9) rfl dX0_wear_8 ?_
  refine lv_iload_n hx hb dX0_wear_11 rfl (lv_at hl 0 rfl) ?_
  refine lv_aload_n hx hb dX0_wear_12 rfl (lv_at hl 1 rfl) ?_
  refine va_get (D := E.1) (ci := 0) (v := .ref pa) (C := RX0) (T := TX0) (N := 6) hx hb hts inX0 hown hK hP 0 rfl rfl 1 (by decide) fl15 (fun _ h9 => h9) rfl dX0_wear_13 ?_
  refine lv_iload_n hx hb dX0_wear_16 rfl (lv_at hl 0 rfl) ?_
  refine va_iald hx hb hK hP 1 0 rfl rfl (show vp_in 3 4 from by unfold vp_in; decide) dX0_wear_17 ?_
  refine lv_topi (fun x_13 ex_13 => ?_)
  refine lv_iconst (v := 1) hx hb dX0_wear_18 (by decide) ?_
  refine lv_isub hx hb dX0_wear_19 ?_
  refine lv_topi (fun x_14 ex_14 => ?_)
  refine lv_iconst (v := (-1)) hx hb dX0_wear_20 (by decide) ?_
  refine va_mmax hx hb (by rw [hml]; exact hl.1.symm) hown (hts (.methodLink RX0 43 Lib.Math.max.name) (by first | exact List.mem_of_getElem? (i := 2) rfl | decide +kernel)) (hts (.static Lib.Math.max.name) (by first | exact List.mem_of_getElem? (i := 3) rfl | decide +kernel)) (hts (.initialized "java/lang/Math") (by first | exact List.mem_of_getElem? (i := 4) rfl | decide +kernel)) (hts (.code Lib.Math.max.name Lib.Math.max.code 2 (some .int)) (by first | exact List.mem_of_getElem? (i := 5) rfl | decide +kernel)) (Nat.le_of_ble_eq_true rfl) (Nat.le_of_ble_eq_true rfl) (Nat.le_of_ble_eq_true rfl) (Nat.le_of_ble_eq_true rfl) dX0_wear_21 ?_
  refine lv_topi (fun x_15 ex_15 => ?_)
  refine va_iast hx hb hK hP hD hS 1 0 rfl rfl (show vp_in 3 4 from by unfold vp_in; decide) dX0_wear_24 (fun H locs hP hD hS => ?_)
  have hP : va_P E.1 vwCl [(h0, .inr (0, [.ref sp, .ref pa, .int lt, .ref ru, .ref co, .ref tr])), (pa, .inl (E.2.1 0, 4, .inl (upd f_12 (Int32.toNatClampNeg 3) x_15)))] H := hP
  have hD : va_D A [(h0, .inr (0, [.ref sp, .ref pa, .int lt, .ref ru, .ref co, .ref tr])), (pa, .inl (E.2.1 0, 4, .inl (upd f_12 (Int32.toNatClampNeg 3) x_15)))] := hD
  obtain ⟨f_16, ef_16⟩ : ∃ g : Nat → Int32, g = upd f_12 (Int32.toNatClampNeg 3) x_15 := ⟨_, rfl⟩
  rw [← ef_16] at hP hD
  refine lv_iinc (v := 4) (lv' := [(1, .int 4), (0, .ref h0)]) hx hb dX0_wear_25 hl (k := 0) rfl (by decide) (by decide) rfl (fun ls hl => ?_)
  refine lv_goto (tgt := 2) hx hb dX0_wear_28 (by decide) ?_
  refine lv_iload_n hx hb dX0_wear_2 rfl (lv_at hl 0 rfl) ?_
  refine lv_iconst (v := 4) hx hb dX0_wear_3 (by decide) ?_
  refine lv_icmp_ge (tgt := 31) hx hb dX0_wear_4 (by decide) (fun _ => ?_) (fun c9 => absurd c9 (by decide))
  have hP9 := hP.sub (ws' := [(h0, .inr (0, [.ref sp, .ref pa, .int lt, .ref ru, .ref co, .ref tr])), (pa, .inl (E.2.1 0, 4, .inl f_16))]) [0, 1] rfl
  have hD9 := hD.sub (ws' := [(h0, .inr (0, [.ref sp, .ref pa, .int lt, .ref ru, .ref co, .ref tr])), (pa, .inl (E.2.1 0, 4, .inl f_16))]) [0, 1] (by decide) rfl
  exact W.vret hx hb hr (fun t ht hW => ⟨⟨f_16, rfl, trivial, by rw [ht]; exact hP9, hD9⟩, hS.F ht⟩) hS.2.2 dX0_wear_31
set_option maxHeartbeats 4000000 in
set_option maxRecDepth 100000 in
theorem c_X0_drink (l : Launch) (E : vE) (h0 : Nat) (sp : Nat) (pa : Nat) (ru : Nat) (co : Nat) (tr : Nat) (lt : Int32) (pe : Int32) (sz : Nat) : Met l yX0_drink wsX0_drink ({ frames := 1, cells := 0, slots := 0, locals := 24 }) (pcW E [.ref h0, .int pe] sz [(h0, .inr (0, [.ref sp, .ref pa, .int lt, .ref ru, .ref co, .ref tr]))]) (va_Qi (fun (r : Int32) (lt2 : Int32) => r = 0 ∨ r = 1) (fun (lt2 : Int32) (t : State) => wB E (va_A [(h0, .inr (0, [.ref sp, .ref pa, .int lt, .ref ru, .ref co, .ref tr]))] sz) [(h0, .inr (0, [.ref sp, .ref pa, .int lt2, .ref ru, .ref co, .ref tr]))] t) (va_A [(h0, .inr (0, [.ref sp, .ref pa, .int lt, .ref ru, .ref co, .ref tr]))] sz)) 0 0 (va_A [(h0, .inr (0, [.ref sp, .ref pa, .int lt, .ref ru, .ref co, .ref tr]))] sz) := by
  refine Met.ofW (cc := cX0_drink) (maxL := 3) (ret := (some .boolean)) (by decide) rfl ?_
  intro p e s m args below meth c s₁ B hml hv
  obtain ⟨rfl, hsz, hP, hkn, hD0, hst⟩ := hv
  have hx := B.exec
  have hb := B.bytes
  have hr := B.returns
  have hts := atoms_spec (ws := wsX0_drink) B.pre
  have hown : s.vm.findClass RX0 = some m.cls := findClass_of_methodNamed B.named
  have hlocks := B.notSynchronized
  subst hsz
  have hD := hD0.self (sz := s.heap.size)
  have hK := hkn.1
  have hAO := hkn.2.2.1
  generalize hAe : va_A [(h0, .inr (0, [.ref sp, .ref pa, .int lt, .ref ru, .ref co, .ref tr]))] s.heap.size = A at hD hst ⊢
  have hA : ∀ q : Nat, s.heap.size ≤ q → A q := fun q h => by rw [← hAe]; exact Or.inr h
  have hS : va_S A s.heap s.heap [] := va_S.rf
  have hP : va_P E.1 vwCl [(h0, .inr (0, [.ref sp, .ref pa, .int lt, .ref ru, .ref co, .ref tr]))] s.heap := hP
  have hl := lv_entry ([.ref h0, .int pe]) (n := 3) (Nat.le_of_ble_eq_true rfl)
  rw [lg_entry_eq]
  generalize (lg_sl ([.ref h0, .int pe]) ++ List.replicate (3 - (lg_sl ([.ref h0, .int pe])).length) Slot.unset).toArray = ls at hl ⊢
  have hl : lv_has ls 3 [(0, .ref h0), (1, .int pe)] := hl
  have fl18 := hts (.fieldLink RX0 18 "BoatsHome$Boat" "litres" "I") (by first | exact List.mem_of_getElem? (i := 1) rfl | decide +kernel)
  have inX0 : ∀ w ∈ u_ws RX0 TX0 6, w ∈ wsX0_drink := by first | exact fun w h9 => (List.mem_cons_of_mem _ (List.mem_append_right _ h9)) | decide +kernel
  refine lv_aload_n hx hb dX0_drink_0 rfl (lv_at hl 0 rfl) ?_
  refine va_get (D := E.1) (ci := 0) (v := .int lt) (C := RX0) (T := TX0) (N := 6) hx hb hts inX0 hown hK hP 0 rfl rfl 2 (by decide) fl18 (fun _ h9 => h9) rfl dX0_drink_1 ?_
  refine lv_iload_n hx hb dX0_drink_4 rfl (lv_at hl 1 rfl) ?_
  refine lv_icmp_lt (tgt := 12) hx hb dX0_drink_5 (by decide) (fun c_1 => ?_) (fun c_1 => ?_)
  · refine lv_iconst (v := 0) hx hb dX0_drink_12 (by decide) ?_
    refine lv_istore_n (lv' := [(2, .int 0), (0, .ref h0), (1, .int pe)]) hx hb dX0_drink_13 rfl hl (by decide) rfl (fun ls hl => ?_)
    refine lv_aload_n hx hb dX0_drink_14 rfl (lv_at hl 1 rfl) ?_
    refine lv_aload_n hx hb dX0_drink_15 rfl (lv_at hl 1 rfl) ?_
    refine va_get (D := E.1) (ci := 0) (v := .int lt) (C := RX0) (T := TX0) (N := 6) hx hb hts inX0 hown hK hP 0 rfl rfl 2 (by decide) fl18 (fun _ h9 => h9) rfl dX0_drink_16 ?_
    refine lv_iload_n hx hb dX0_drink_19 rfl (lv_at hl 2 rfl) ?_
    refine lv_isub hx hb dX0_drink_20 ?_
    refine lv_topi (fun x_2 ex_2 => ?_)
    refine lv_iconst (v := 0) hx hb dX0_drink_21 (by decide) ?_
    refine va_mmax hx hb (by rw [hml]; exact hl.1.symm) hown (hts (.methodLink RX0 43 Lib.Math.max.name) (by first | exact List.mem_of_getElem? (i := 2) rfl | decide +kernel)) (hts (.static Lib.Math.max.name) (by first | exact List.mem_of_getElem? (i := 3) rfl | decide +kernel)) (hts (.initialized "java/lang/Math") (by first | exact List.mem_of_getElem? (i := 4) rfl | decide +kernel)) (hts (.code Lib.Math.max.name Lib.Math.max.code 2 (some .int)) (by first | exact List.mem_of_getElem? (i := 5) rfl | decide +kernel)) (Nat.le_of_ble_eq_true rfl) (Nat.le_of_ble_eq_true rfl) (Nat.le_of_ble_eq_true rfl) (Nat.le_of_ble_eq_true rfl) dX0_drink_22 ?_
    refine lv_topi (fun x_3 ex_3 => ?_)
    refine va_put (D := E.1) (ci := 0) (v := .int x_3) (ty := .int) (C := RX0) (T := TX0) (N := 6) hx hb hts inX0 tyX0 tyX0_ok nmX0 hown hK hP hD hS 0 rfl rfl 2 (by decide) fl18 (fun _ h9 => h9) rfl (by decide +kernel) rfl rfl (Nat.le_of_ble_eq_true rfl) dX0_drink_25 (fun H locs hP hD hS => ?_)
    have hP : va_P E.1 vwCl [(h0, .inr (0, [.ref sp, .ref pa, .int x_3, .ref ru, .ref co, .ref tr]))] H := hP
    have hD : va_D A [(h0, .inr (0, [.ref sp, .ref pa, .int x_3, .ref ru, .ref co, .ref tr]))] := hD
    refine lv_iload_n hx hb dX0_drink_28 rfl (lv_at hl 0 rfl) ?_
    have hP9 := hP.sub (ws' := [(h0, .inr (0, [.ref sp, .ref pa, .int x_3, .ref ru, .ref co, .ref tr]))]) [0] rfl
    have hD9 := hD.sub (ws' := [(h0, .inr (0, [.ref sp, .ref pa, .int x_3, .ref ru, .ref co, .ref tr]))]) [0] (by decide) rfl
    exact W.zret (v := 0) hx hb hr (by decide) (fun t ht hW => ⟨⟨0, x_3, rfl, Or.inl rfl, by rw [ht]; exact hP9, hD9⟩, hS.F ht⟩) hS.2.2 dX0_drink_29
  · refine lv_iconst (v := 1) hx hb dX0_drink_8 (by decide) ?_
    refine lv_goto (tgt := 13) hx hb dX0_drink_9 (by decide) ?_
    refine lv_istore_n (lv' := [(2, .int 1), (0, .ref h0), (1, .int pe)]) hx hb dX0_drink_13 rfl hl (by decide) rfl (fun ls hl => ?_)
    refine lv_aload_n hx hb dX0_drink_14 rfl (lv_at hl 1 rfl) ?_
    refine lv_aload_n hx hb dX0_drink_15 rfl (lv_at hl 1 rfl) ?_
    refine va_get (D := E.1) (ci := 0) (v := .int lt) (C := RX0) (T := TX0) (N := 6) hx hb hts inX0 hown hK hP 0 rfl rfl 2 (by decide) fl18 (fun _ h9 => h9) rfl dX0_drink_16 ?_
    refine lv_iload_n hx hb dX0_drink_19 rfl (lv_at hl 2 rfl) ?_
    refine lv_isub hx hb dX0_drink_20 ?_
    refine lv_topi (fun x_4 ex_4 => ?_)
    refine lv_iconst (v := 0) hx hb dX0_drink_21 (by decide) ?_
    refine va_mmax hx hb (by rw [hml]; exact hl.1.symm) hown (hts (.methodLink RX0 43 Lib.Math.max.name) (by first | exact List.mem_of_getElem? (i := 2) rfl | decide +kernel)) (hts (.static Lib.Math.max.name) (by first | exact List.mem_of_getElem? (i := 3) rfl | decide +kernel)) (hts (.initialized "java/lang/Math") (by first | exact List.mem_of_getElem? (i := 4) rfl | decide +kernel)) (hts (.code Lib.Math.max.name Lib.Math.max.code 2 (some .int)) (by first | exact List.mem_of_getElem? (i := 5) rfl | decide +kernel)) (Nat.le_of_ble_eq_true rfl) (Nat.le_of_ble_eq_true rfl) (Nat.le_of_ble_eq_true rfl) (Nat.le_of_ble_eq_true rfl) dX0_drink_22 ?_
    refine lv_topi (fun x_5 ex_5 => ?_)
    refine va_put (D := E.1) (ci := 0) (v := .int x_5) (ty := .int) (C := RX0) (T := TX0) (N := 6) hx hb hts inX0 tyX0 tyX0_ok nmX0 hown hK hP hD hS 0 rfl rfl 2 (by decide) fl18 (fun _ h9 => h9) rfl (by decide +kernel) rfl rfl (Nat.le_of_ble_eq_true rfl) dX0_drink_25 (fun H locs hP hD hS => ?_)
    have hP : va_P E.1 vwCl [(h0, .inr (0, [.ref sp, .ref pa, .int x_5, .ref ru, .ref co, .ref tr]))] H := hP
    have hD : va_D A [(h0, .inr (0, [.ref sp, .ref pa, .int x_5, .ref ru, .ref co, .ref tr]))] := hD
    refine lv_iload_n hx hb dX0_drink_28 rfl (lv_at hl 0 rfl) ?_
    have hP9 := hP.sub (ws' := [(h0, .inr (0, [.ref sp, .ref pa, .int x_5, .ref ru, .ref co, .ref tr]))]) [0] rfl
    have hD9 := hD.sub (ws' := [(h0, .inr (0, [.ref sp, .ref pa, .int x_5, .ref ru, .ref co, .ref tr]))]) [0] (by decide) rfl
    exact W.zret (v := 1) hx hb hr (by decide) (fun t ht hW => ⟨⟨1, x_5, rfl, Or.inr rfl, by rw [ht]; exact hP9, hD9⟩, hS.F ht⟩) hS.2.2 dX0_drink_29
set_option maxHeartbeats 4000000 in
set_option maxRecDepth 100000 in
theorem c_X0_speedAt (l : Launch) (E : vE) (h0 : Nat) (sp : Nat) (pa : Nat) (ru : Nat) (co : Nat) (tr : Nat) (lt : Int32) (an : Int32) (fo : Int32) (fs_ : Nat → Int32) (sz : Nat) : Met l yX0_speedAt wsX0_speedAt ({ frames := 1, cells := 0, slots := 0, locals := 21 }) (pcW E [.ref h0, .int an, .int fo] sz [(h0, .inr (0, [.ref sp, .ref pa, .int lt, .ref ru, .ref co, .ref tr])), (sp, .inl (E.2.1 0, 25, .inl fs_))]) (va_Qi (fun (r : Int32) (_ : Unit) => True) (fun (_ : Unit) (t : State) => wB E (va_A [(h0, .inr (0, [.ref sp, .ref pa, .int lt, .ref ru, .ref co, .ref tr])), (sp, .inl (E.2.1 0, 25, .inl fs_))] sz) [(h0, .inr (0, [.ref sp, .ref pa, .int lt, .ref ru, .ref co, .ref tr])), (sp, .inl (E.2.1 0, 25, .inl fs_))] t) (va_A [(h0, .inr (0, [.ref sp, .ref pa, .int lt, .ref ru, .ref co, .ref tr])), (sp, .inl (E.2.1 0, 25, .inl fs_))] sz)) 0 0 (va_A [(h0, .inr (0, [.ref sp, .ref pa, .int lt, .ref ru, .ref co, .ref tr])), (sp, .inl (E.2.1 0, 25, .inl fs_))] sz) := by
  refine Met.ofW (cc := cX0_speedAt) (maxL := 4) (ret := (some .int)) (by decide) rfl ?_
  intro p e s m args below meth c s₁ B hml hv
  obtain ⟨rfl, hsz, hP, hkn, hD0, hst⟩ := hv
  have hx := B.exec
  have hb := B.bytes
  have hr := B.returns
  have hts := atoms_spec (ws := wsX0_speedAt) B.pre
  have hown : s.vm.findClass RX0 = some m.cls := findClass_of_methodNamed B.named
  have hlocks := B.notSynchronized
  subst hsz
  have hD := hD0.self (sz := s.heap.size)
  have hK := hkn.1
  have hAO := hkn.2.2.1
  generalize hAe : va_A [(h0, .inr (0, [.ref sp, .ref pa, .int lt, .ref ru, .ref co, .ref tr])), (sp, .inl (E.2.1 0, 25, .inl fs_))] s.heap.size = A at hD hst ⊢
  have hA : ∀ q : Nat, s.heap.size ≤ q → A q := fun q h => by rw [← hAe]; exact Or.inr h
  have hS : va_S A s.heap s.heap [] := va_S.rf
  have hP : va_P E.1 vwCl [(h0, .inr (0, [.ref sp, .ref pa, .int lt, .ref ru, .ref co, .ref tr])), (sp, .inl (E.2.1 0, 25, .inl fs_))] s.heap := hP
  have hl := lv_entry ([.ref h0, .int an, .int fo]) (n := 4) (Nat.le_of_ble_eq_true rfl)
  rw [lg_entry_eq]
  generalize (lg_sl ([.ref h0, .int an, .int fo]) ++ List.replicate (4 - (lg_sl ([.ref h0, .int an, .int fo])).length) Slot.unset).toArray = ls at hl ⊢
  have hl : lv_has ls 4 [(0, .ref h0), (1, .int an), (2, .int fo)] := hl
  have fl9 := hts (.fieldLink RX0 9 "BoatsHome$Boat" "speeds" "[I") (by first | exact List.mem_of_getElem? (i := 1) rfl | decide +kernel)
  have inX0 : ∀ w ∈ u_ws RX0 TX0 6, w ∈ wsX0_speedAt := by first | exact fun w h9 => (List.mem_cons_of_mem _ (List.mem_append_right _ h9)) | decide +kernel
  refine lv_iload_n hx hb dX0_speedAt_0 rfl (lv_at hl 1 rfl) ?_
  refine lv_iconst (v := 5) hx hb dX0_speedAt_1 (by decide) ?_
  refine lv_imul hx hb dX0_speedAt_2 ?_
  refine lv_topi (fun x_1 ex_1 => ?_)
  refine lv_iload_n hx hb dX0_speedAt_3 rfl (lv_at hl 2 rfl) ?_
  refine lv_iconst (v := 2) hx hb dX0_speedAt_4 (by decide) ?_
  refine lv_idiv hx hb dX0_speedAt_5 (by decide) ?_
  refine lv_topi (fun x_2 ex_2 => ?_)
  refine lv_iadd hx hb dX0_speedAt_6 ?_
  refine lv_topi (fun x_3 ex_3 => ?_)
  refine lv_istore_n (lv' := [(3, .int x_3), (0, .ref h0), (1, .int an), (2, .int fo)]) hx hb dX0_speedAt_7 rfl hl (by decide) rfl (fun ls hl => ?_)
  refine lv_iload_n hx hb dX0_speedAt_8 rfl (lv_at hl 0 rfl) ?_
  refine lv_bipush (v := 25) hx hb dX0_speedAt_9 (by decide) ?_
  have hPc := hP.sub (ws' := []) [] rfl
  have hDc := hD.sub (ws' := []) [] (by decide) rfl
  have hFc := va_free (wc := []) hD hS hA [] rfl
  refine va_calli (va_runSN (As := [.int x_3, .int 25]) (rest := []) ⟨hx, hb, hml, hown, hts⟩ (c_X11_below l E x_3 25 24 s.heap.size (lt_le (by decide))) ⟨va_cnB 2 hts gX0_speedAt_X11_below_n49 rfl rfl rfl (hkn.2.1 (.methodLinkNest RX0 49 yX11_below "BoatsHome") (by decide +kernel)) (hts (.initialized RX11) (by first | exact List.mem_of_getElem? (i := 3) rfl | decide +kernel)) (by decide +kernel) ⟨Nat.le_of_ble_eq_true rfl, Nat.le_of_ble_eq_true rfl⟩, hts (.static yX11_below) (by first | exact List.mem_of_getElem? (i := 2) rfl | decide +kernel), trivial⟩ ⟨pcW_blind, (pcW_pre hPc hkn hDc hst hS hFc)⟩ rfl rfl hl.1 rfl (lv_room (Nat.le_of_ble_eq_true rfl)) dX0_speedAt_11 ⟨Nat.le_of_ble_eq_true rfl, Nat.le_of_ble_eq_true rfl⟩) hS (fun q _ h => hFc q h) hFc (fun r_4 u t H1 locs ht hvm hw_5 hB hz1 hk1 hS => ?_)
  obtain ⟨hP1, hD1⟩ := hB
  rw [ht] at hP1
  try dsimp only at hw_5
  obtain ⟨hP, hD⟩ := va_join (wr := [(h0, .inr (0, [.ref sp, .ref pa, .int lt, .ref ru, .ref co, .ref tr])), (sp, .inl (E.2.1 0, 25, .inl fs_))]) (w1 := []) hP hD [] [0, 1] rfl rfl (by decide) (by decide) hk1 hFc hP1 hD1
  generalize H1 = H at hP hS ⊢
  have hP : va_P E.1 vwCl [(h0, .inr (0, [.ref sp, .ref pa, .int lt, .ref ru, .ref co, .ref tr])), (sp, .inl (E.2.1 0, 25, .inl fs_))] H := hP
  have hD : va_D A [(h0, .inr (0, [.ref sp, .ref pa, .int lt, .ref ru, .ref co, .ref tr])), (sp, .inl (E.2.1 0, 25, .inl fs_))] := hD
  refine lv_if_eq (tgt := 26) hx hb dX0_speedAt_14 (by decide) (fun c_6 => ?_) (fun c_6 => ?_)
  · have b_7 : inR x_3 0 24 = false := bz hw_5 c_6
    refine lv_iconst (v := 0) hx hb dX0_speedAt_26 (by decide) ?_
    have hP9 := hP.sub (ws' := [(h0, .inr (0, [.ref sp, .ref pa, .int lt, .ref ru, .ref co, .ref tr])), (sp, .inl (E.2.1 0, 25, .inl fs_))]) [0, 1] rfl
    have hD9 := hD.sub (ws' := [(h0, .inr (0, [.ref sp, .ref pa, .int lt, .ref ru, .ref co, .ref tr])), (sp, .inl (E.2.1 0, 25, .inl fs_))]) [0, 1] (by decide) rfl
    exact W.iret (v := 0) hx hb hr (fun t ht hW => ⟨⟨0, (), rfl, trivial, by rw [ht]; exact hP9, hD9⟩, hS.F ht⟩) hS.2.2 dX0_speedAt_27
  · have b_8 : inR x_3 0 24 = true := bn hw_5 c_6
    refine lv_aload_n hx hb dX0_speedAt_17 rfl (lv_at hl 1 rfl) ?_
    refine va_get (D := E.1) (ci := 0) (v := .ref sp) (C := RX0) (T := TX0) (N := 6) hx hb hts inX0 hown hK hP 0 rfl rfl 0 (by decide) fl9 (fun _ h9 => h9) rfl dX0_speedAt_18 ?_
    refine lv_iload_n hx hb dX0_speedAt_21 rfl (lv_at hl 0 rfl) ?_
    have hi_9 : vp_in x_3 25 := inR_in (by decide) b_8
    refine va_iald hx hb hK hP 1 0 rfl rfl hi_9 dX0_speedAt_22 ?_
    refine lv_topi (fun x_10 ex_10 => ?_)
    refine lv_goto (tgt := 27) hx hb dX0_speedAt_23 (by decide) ?_
    have hP9 := hP.sub (ws' := [(h0, .inr (0, [.ref sp, .ref pa, .int lt, .ref ru, .ref co, .ref tr])), (sp, .inl (E.2.1 0, 25, .inl fs_))]) [0, 1] rfl
    have hD9 := hD.sub (ws' := [(h0, .inr (0, [.ref sp, .ref pa, .int lt, .ref ru, .ref co, .ref tr])), (sp, .inl (E.2.1 0, 25, .inl fs_))]) [0, 1] (by decide) rfl
    exact W.iret (v := x_10) hx hb hr (fun t ht hW => ⟨⟨x_10, (), rfl, trivial, by rw [ht]; exact hP9, hD9⟩, hS.F ht⟩) hS.2.2 dX0_speedAt_27
