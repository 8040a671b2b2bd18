set_option maxHeartbeats 4000000 in
set_option maxRecDepth 100000 in
theorem c_X11_planned (l : Launch) (E : vE) (h0 : Nat) (tp : Nat) (rd : Nat) (se : Nat) (ba : Nat) (of : Nat) (pl : Nat) (sr : Nat) (sc : Nat) (wk : Int32) (k1 : Nat) (k2 : Nat) (k3 : Nat) (k4 : Nat) (md : Int32) (dn : Int32) (fsu : Int32) (g1 : Nat) (g2 : Nat) (g3 : Nat) (g4 : Nat) (g5 : Nat) (g6 : Nat) (g7 : Nat) (g8 : Nat) (on : Nat) (f3 : Nat → Int32) (f4 : Nat → Int32) (what : Int32) (sz : Nat) (hon : on ≤ 7) : Met l yX11_planned wsX11_planned ({ frames := 2, cells := 0, slots := 0, locals := 40 }) (pcW E [.ref h0, .int what] sz [(h0, .inr (11, [.ref tp, .ref rd, .ref se, .ref ba, .ref of, .ref pl, .ref sr, .ref sc, .int wk])), (pl, .inr (5, [.ref of, .ref k1, .ref k2, .ref k3, .ref k4, .int md, .int dn, .int fsu])), (k3, .inl (E.2.1 0, 7, .inl f3)), (k4, .inl (E.2.1 0, 7, .inl f4)), (of, .inr (2, [.ref g1, .ref g2, .ref g3, .ref g4, .ref g5, .int (nI on), .ref g6, .ref g7, .ref g8]))]) (va_Qi (fun (r : Int32) (_ : Unit) => True) (fun (_ : Unit) (t : State) => wB E (va_A [(h0, .inr (11, [.ref tp, .ref rd, .ref se, .ref ba, .ref of, .ref pl, .ref sr, .ref sc, .int wk])), (pl, .inr (5, [.ref of, .ref k1, .ref k2, .ref k3, .ref k4, .int md, .int dn, .int fsu])), (k3, .inl (E.2.1 0, 7, .inl f3)), (k4, .inl (E.2.1 0, 7, .inl f4)), (of, .inr (2, [.ref g1, .ref g2, .ref g3, .ref g4, .ref g5, .int (nI on), .ref g6, .ref g7, .ref g8]))] sz) [(h0, .inr (11, [.ref tp, .ref rd, .ref se, .ref ba, .ref of, .ref pl, .ref sr, .ref sc, .int wk])), (pl, .inr (5, [.ref of, .ref k1, .ref k2, .ref k3, .ref k4, .int md, .int dn, .int fsu])), (k3, .inl (E.2.1 0, 7, .inl f3)), (k4, .inl (E.2.1 0, 7, .inl f4)), (of, .inr (2, [.ref g1, .ref g2, .ref g3, .ref g4, .ref g5, .int (nI on), .ref g6, .ref g7, .ref g8]))] t) (va_A [(h0, .inr (11, [.ref tp, .ref rd, .ref se, .ref ba, .ref of, .ref pl, .ref sr, .ref sc, .int wk])), (pl, .inr (5, [.ref of, .ref k1, .ref k2, .ref k3, .ref k4, .int md, .int dn, .int fsu])), (k3, .inl (E.2.1 0, 7, .inl f3)), (k4, .inl (E.2.1 0, 7, .inl f4)), (of, .inr (2, [.ref g1, .ref g2, .ref g3, .ref g4, .ref g5, .int (nI on), .ref g6, .ref g7, .ref g8]))] sz)) 0 0 (va_A [(h0, .inr (11, [.ref tp, .ref rd, .ref se, .ref ba, .ref of, .ref pl, .ref sr, .ref sc, .int wk])), (pl, .inr (5, [.ref of, .ref k1, .ref k2, .ref k3, .ref k4, .int md, .int dn, .int fsu])), (k3, .inl (E.2.1 0, 7, .inl f3)), (k4, .inl (E.2.1 0, 7, .inl f4)), (of, .inr (2, [.ref g1, .ref g2, .ref g3, .ref g4, .ref g5, .int (nI on), .ref g6, .ref g7, .ref g8]))] sz) := by
  refine Met.ofW (cc := cX11_planned) (maxL := 2) (ret := (some .int)) (by decide) rfl ?_
  intro p e s m args below meth c s₁ B hml hv
  obtain ⟨rfl, hsz, hP, hkn, hD0, hst⟩ := hv
  have hx := B.exec
  have hb := B.bytes
  have hr := B.returns
  have hts := atoms_spec (ws := wsX11_planned) B.pre
  have hown : s.vm.findClass RX11 = some m.cls := findClass_of_methodNamed B.named
  have hlocks := B.notSynchronized
  subst hsz
  have hD := hD0.self (sz := s.heap.size)
  have hK := hkn.1
  have hAO := hkn.2.2.1
  generalize hAe : va_A [(h0, .inr (11, [.ref tp, .ref rd, .ref se, .ref ba, .ref of, .ref pl, .ref sr, .ref sc, .int wk])), (pl, .inr (5, [.ref of, .ref k1, .ref k2, .ref k3, .ref k4, .int md, .int dn, .int fsu])), (k3, .inl (E.2.1 0, 7, .inl f3)), (k4, .inl (E.2.1 0, 7, .inl f4)), (of, .inr (2, [.ref g1, .ref g2, .ref g3, .ref g4, .ref g5, .int (nI on), .ref g6, .ref g7, .ref g8]))] s.heap.size = A at hD hst ⊢
  have hA : ∀ q : Nat, s.heap.size ≤ q → A q := fun q h => by rw [← hAe]; exact Or.inr h
  have hS : va_S A s.heap s.heap [] := va_S.rf
  have hP : va_P E.1 vwCl [(h0, .inr (11, [.ref tp, .ref rd, .ref se, .ref ba, .ref of, .ref pl, .ref sr, .ref sc, .int wk])), (pl, .inr (5, [.ref of, .ref k1, .ref k2, .ref k3, .ref k4, .int md, .int dn, .int fsu])), (k3, .inl (E.2.1 0, 7, .inl f3)), (k4, .inl (E.2.1 0, 7, .inl f4)), (of, .inr (2, [.ref g1, .ref g2, .ref g3, .ref g4, .ref g5, .int (nI on), .ref g6, .ref g7, .ref g8]))] s.heap := hP
  have hl := lv_entry ([.ref h0, .int what]) (n := 2) (Nat.le_of_ble_eq_true rfl)
  rw [lg_entry_eq]
  generalize (lg_sl ([.ref h0, .int what]) ++ List.replicate (2 - (lg_sl ([.ref h0, .int what])).length) Slot.unset).toArray = ls at hl ⊢
  have hl : lv_has ls 2 [(0, .ref h0), (1, .int what)] := hl
  have fl42 := hts (.fieldLink RX11 42 "BoatsHome" "offers" "LBoatsHome$Offers;") (by first | exact List.mem_of_getElem? (i := 4) rfl | decide +kernel)
  have fl51 := hts (.fieldLink RX11 51 "BoatsHome" "latestPlan" "LBoatsHome$Plan;") (by first | exact List.mem_of_getElem? (i := 1) rfl | decide +kernel)
  have fl197 := hts (.fieldLink RX11 197 "BoatsHome$Offers" "size" "I") (by first | exact List.mem_of_getElem? (i := 5) rfl | decide +kernel)
  have fl198 := hts (.fieldLink RX11 198 "BoatsHome$Plan" "made" "Z") (by first | exact List.mem_of_getElem? (i := 2) rfl | decide +kernel)
  have fl221 := hts (.fieldLink RX11 221 "BoatsHome$Plan" "flightSum" "I") (by first | exact List.mem_of_getElem? (i := 3) rfl | decide +kernel)
  have fl224 := hts (.fieldLink RX11 224 "BoatsHome$Plan" "crewOf" "[I") (by first | exact List.mem_of_getElem? (i := 6) rfl | decide +kernel)
  have fl227 := hts (.fieldLink RX11 227 "BoatsHome$Plan" "dayOf" "[I") (by first | exact List.mem_of_getElem? (i := 7) rfl | decide +kernel)
  have inX11 : ∀ w ∈ u_ws RX11 TX11 9, w ∈ wsX11_planned := by first | exact fun w h9 => (List.mem_cons_of_mem _ (List.mem_append_left _ (List.mem_append_left _ (List.mem_append_right _ h9)))) | decide +kernel
  have inX2 : ∀ w ∈ u_ws RX2 TX2 9, w ∈ wsX11_planned := by first | exact fun w h9 => (List.mem_cons_of_mem _ (List.mem_append_right _ h9)) | decide +kernel
  have inX5 : ∀ w ∈ u_ws RX5 TX5 8, w ∈ wsX11_planned := by first | exact fun w h9 => (List.mem_cons_of_mem _ (List.mem_append_left _ (List.mem_append_right _ h9))) | decide +kernel
  refine lv_aload_n hx hb dX11_planned_0 rfl (lv_at hl 0 rfl) ?_
  refine va_get (D := E.1) (ci := 11) (v := .ref pl) (C := RX11) (T := TX11) (N := 9) hx hb hts inX11 hown hK hP 0 rfl rfl 5 (by decide) fl51 (fun _ h9 => h9) rfl dX11_planned_1 ?_
  refine va_get (D := E.1) (ci := 5) (v := .int md) (C := RX5) (T := TX5) (N := 8) hx hb hts inX5 hown hK hP 1 rfl rfl 5 (by decide) fl198 (fun _ h9 => h9) rfl dX11_planned_4 ?_
  refine lv_if_ne (tgt := 13) hx hb dX11_planned_7 (by decide) (fun c_1 => ?_) (fun c_1 => ?_)
  · refine lv_iload_n hx hb dX11_planned_13 rfl (lv_at hl 1 rfl) ?_
    refine lv_if_ne (tgt := 25) hx hb dX11_planned_14 (by decide) (fun c_2 => ?_) (fun c_2 => ?_)
    · refine lv_iload_n hx hb dX11_planned_25 rfl (lv_at hl 1 rfl) ?_
      refine lv_bipush (v := 10) hx hb dX11_planned_26 (by decide) ?_
      refine lv_bipush (v := 10) hx hb dX11_planned_28 (by decide) ?_
      refine lv_aload_n hx hb dX11_planned_30 rfl (lv_at hl 0 rfl) ?_
      refine va_get (D := E.1) (ci := 11) (v := .ref of) (C := RX11) (T := TX11) (N := 9) hx hb hts inX11 hown hK hP 0 rfl rfl 4 (by decide) fl42 (fun _ h9 => h9) rfl dX11_planned_31 ?_
      refine va_get (D := E.1) (ci := 2) (v := .int (nI on)) (C := RX2) (T := TX2) (N := 9) hx hb hts inX2 hown hK hP 4 rfl rfl 5 (by decide) fl197 (fun _ h9 => h9) rfl dX11_planned_34 ?_
      refine lv_iadd hx hb dX11_planned_37 ?_
      refine lv_topi (fun x_3 ex_3 => ?_)
      obtain rfl : x_3 = nI (10 + on) := ex_3.trans (nI_add 10 on)
      refine lv_iconst (v := 1) hx hb dX11_planned_38 (by decide) ?_
      refine lv_isub hx hb dX11_planned_39 ?_
      refine lv_topi (fun x_4 ex_4 => ?_)
      have hPc := hP.sub (ws' := []) [] rfl
      have hDc := hD.sub (ws' := []) [] (by decide) rfl
      have hFc := va_free (wc := []) hD hS hA [] rfl
      refine va_calli (va_runS (As := [.int what, .int 10, .int x_4]) (rest := []) ⟨hx, hb, hml, hown, hts⟩ (c_X11_within l E what 10 x_4 s.heap.size ) (va_cwS 3 hts gX11_planned_X11_within rfl rfl rfl hdS_X11_within ⟨Nat.le_of_ble_eq_true rfl, Nat.le_of_ble_eq_true rfl⟩) ⟨pcW_blind, (pcW_pre hPc hkn hDc hst hS hFc)⟩ rfl rfl hl.1 rfl (lv_room (Nat.le_of_ble_eq_true rfl)) dX11_planned_40 ⟨Nat.le_of_ble_eq_true rfl, Nat.le_of_ble_eq_true rfl⟩) hS (fun q _ h => hFc q h) hFc (fun r_5 u t H1 locs ht hvm hw_6 hB hz1 hk1 hS => ?_)
      obtain ⟨hP1, hD1⟩ := hB
      rw [ht] at hP1
      try dsimp only at hw_6
      obtain ⟨hP, hD⟩ := va_join (wr := [(h0, .inr (11, [.ref tp, .ref rd, .ref se, .ref ba, .ref of, .ref pl, .ref sr, .ref sc, .int wk])), (pl, .inr (5, [.ref of, .ref k1, .ref k2, .ref k3, .ref k4, .int md, .int dn, .int fsu])), (k3, .inl (E.2.1 0, 7, .inl f3)), (k4, .inl (E.2.1 0, 7, .inl f4)), (of, .inr (2, [.ref g1, .ref g2, .ref g3, .ref g4, .ref g5, .int (nI on), .ref g6, .ref g7, .ref g8]))]) (w1 := []) hP hD [] [0, 1, 2, 3, 4] rfl rfl (by decide) (by decide) hk1 hFc hP1 hD1
      generalize H1 = H at hP hS ⊢
      have hP : va_P E.1 vwCl [(h0, .inr (11, [.ref tp, .ref rd, .ref se, .ref ba, .ref of, .ref pl, .ref sr, .ref sc, .int wk])), (pl, .inr (5, [.ref of, .ref k1, .ref k2, .ref k3, .ref k4, .int md, .int dn, .int fsu])), (k3, .inl (E.2.1 0, 7, .inl f3)), (k4, .inl (E.2.1 0, 7, .inl f4)), (of, .inr (2, [.ref g1, .ref g2, .ref g3, .ref g4, .ref g5, .int (nI on), .ref g6, .ref g7, .ref g8]))] H := hP
      have hD : va_D A [(h0, .inr (11, [.ref tp, .ref rd, .ref se, .ref ba, .ref of, .ref pl, .ref sr, .ref sc, .int wk])), (pl, .inr (5, [.ref of, .ref k1, .ref k2, .ref k3, .ref k4, .int md, .int dn, .int fsu])), (k3, .inl (E.2.1 0, 7, .inl f3)), (k4, .inl (E.2.1 0, 7, .inl f4)), (of, .inr (2, [.ref g1, .ref g2, .ref g3, .ref g4, .ref g5, .int (nI on), .ref g6, .ref g7, .ref g8]))] := hD
      refine lv_if_eq (tgt := 59) hx hb dX11_planned_43 (by decide) (fun c_7 => ?_) (fun c_7 => ?_)
      · have b_8 : inR what 10 x_4 = false := bz hw_6 c_7
        refine lv_iload_n hx hb dX11_planned_59 rfl (lv_at hl 1 rfl) ?_
        refine lv_bipush (v := 20) hx hb dX11_planned_60 (by decide) ?_
        refine lv_bipush (v := 20) hx hb dX11_planned_62 (by decide) ?_
        refine lv_aload_n hx hb dX11_planned_64 rfl (lv_at hl 0 rfl) ?_
        refine va_get (D := E.1) (ci := 11) (v := .ref of) (C := RX11) (T := TX11) (N := 9) hx hb hts inX11 hown hK hP 0 rfl rfl 4 (by decide) fl42 (fun _ h9 => h9) rfl dX11_planned_65 ?_
        refine va_get (D := E.1) (ci := 2) (v := .int (nI on)) (C := RX2) (T := TX2) (N := 9) hx hb hts inX2 hown hK hP 4 rfl rfl 5 (by decide) fl197 (fun _ h9 => h9) rfl dX11_planned_68 ?_
        refine lv_iadd hx hb dX11_planned_71 ?_
        refine lv_topi (fun x_9 ex_9 => ?_)
        obtain rfl : x_9 = nI (20 + on) := ex_9.trans (nI_add 20 on)
        refine lv_iconst (v := 1) hx hb dX11_planned_72 (by decide) ?_
        refine lv_isub hx hb dX11_planned_73 ?_
        refine lv_topi (fun x_10 ex_10 => ?_)
        have hPc := hP.sub (ws' := []) [] rfl
        have hDc := hD.sub (ws' := []) [] (by decide) rfl
        have hFc := va_free (wc := []) hD hS hA [] rfl
        refine va_calli (va_runS (As := [.int what, .int 20, .int x_10]) (rest := []) ⟨hx, hb, hml, hown, hts⟩ (c_X11_within l E what 20 x_10 H.size ) (va_cwS 3 hts gX11_planned_X11_within rfl rfl rfl hdS_X11_within ⟨Nat.le_of_ble_eq_true rfl, Nat.le_of_ble_eq_true rfl⟩) ⟨pcW_blind, (pcW_pre hPc hkn hDc hst hS hFc)⟩ rfl rfl hl.1 rfl (lv_room (Nat.le_of_ble_eq_true rfl)) dX11_planned_74 ⟨Nat.le_of_ble_eq_true rfl, Nat.le_of_ble_eq_true rfl⟩) hS (fun q _ h => hFc q h) hFc (fun r_11 u t H1 locs ht hvm hw_12 hB hz1 hk1 hS => ?_)
        obtain ⟨hP1, hD1⟩ := hB
        rw [ht] at hP1
        try dsimp only at hw_12
        obtain ⟨hP, hD⟩ := va_join (wr := [(h0, .inr (11, [.ref tp, .ref rd, .ref se, .ref ba, .ref of, .ref pl, .ref sr, .ref sc, .int wk])), (pl, .inr (5, [.ref of, .ref k1, .ref k2, .ref k3, .ref k4, .int md, .int dn, .int fsu])), (k3, .inl (E.2.1 0, 7, .inl f3)), (k4, .inl (E.2.1 0, 7, .inl f4)), (of, .inr (2, [.ref g1, .ref g2, .ref g3, .ref g4, .ref g5, .int (nI on), .ref g6, .ref g7, .ref g8]))]) (w1 := []) hP hD [] [0, 1, 2, 3, 4] rfl rfl (by decide) (by decide) hk1 hFc hP1 hD1
        generalize H1 = H at hP hS ⊢
        have hP : va_P E.1 vwCl [(h0, .inr (11, [.ref tp, .ref rd, .ref se, .ref ba, .ref of, .ref pl, .ref sr, .ref sc, .int wk])), (pl, .inr (5, [.ref of, .ref k1, .ref k2, .ref k3, .ref k4, .int md, .int dn, .int fsu])), (k3, .inl (E.2.1 0, 7, .inl f3)), (k4, .inl (E.2.1 0, 7, .inl f4)), (of, .inr (2, [.ref g1, .ref g2, .ref g3, .ref g4, .ref g5, .int (nI on), .ref g6, .ref g7, .ref g8]))] H := hP
        have hD : va_D A [(h0, .inr (11, [.ref tp, .ref rd, .ref se, .ref ba, .ref of, .ref pl, .ref sr, .ref sc, .int wk])), (pl, .inr (5, [.ref of, .ref k1, .ref k2, .ref k3, .ref k4, .int md, .int dn, .int fsu])), (k3, .inl (E.2.1 0, 7, .inl f3)), (k4, .inl (E.2.1 0, 7, .inl f4)), (of, .inr (2, [.ref g1, .ref g2, .ref g3, .ref g4, .ref g5, .int (nI on), .ref g6, .ref g7, .ref g8]))] := hD
        refine lv_if_eq (tgt := 93) hx hb dX11_planned_77 (by decide) (fun c_13 => ?_) (fun c_13 => ?_)
        · have b_14 : inR what 20 x_10 = false := bz hw_12 c_13
          refine lv_bipush (v := (-9)) hx hb dX11_planned_93 (by decide) ?_
          have hP9 := hP.sub (ws' := [(h0, .inr (11, [.ref tp, .ref rd, .ref se, .ref ba, .ref of, .ref pl, .ref sr, .ref sc, .int wk])), (pl, .inr (5, [.ref of, .ref k1, .ref k2, .ref k3, .ref k4, .int md, .int dn, .int fsu])), (k3, .inl (E.2.1 0, 7, .inl f3)), (k4, .inl (E.2.1 0, 7, .inl f4)), (of, .inr (2, [.ref g1, .ref g2, .ref g3, .ref g4, .ref g5, .int (nI on), .ref g6, .ref g7, .ref g8]))]) [0, 1, 2, 3, 4] rfl
          have hD9 := hD.sub (ws' := [(h0, .inr (11, [.ref tp, .ref rd, .ref se, .ref ba, .ref of, .ref pl, .ref sr, .ref sc, .int wk])), (pl, .inr (5, [.ref of, .ref k1, .ref k2, .ref k3, .ref k4, .int md, .int dn, .int fsu])), (k3, .inl (E.2.1 0, 7, .inl f3)), (k4, .inl (E.2.1 0, 7, .inl f4)), (of, .inr (2, [.ref g1, .ref g2, .ref g3, .ref g4, .ref g5, .int (nI on), .ref g6, .ref g7, .ref g8]))]) [0, 1, 2, 3, 4] (by decide) rfl
          exact W.iret (v := (-9)) hx hb hr (fun t ht hW => ⟨⟨(-9), (), rfl, trivial, by rw [ht]; exact hP9, hD9⟩, hS.F ht⟩) hS.2.2 dX11_planned_95
        · have b_15 : inR what 20 x_10 = true := bn hw_12 c_13
          refine lv_aload_n hx hb dX11_planned_80 rfl (lv_at hl 0 rfl) ?_
          refine va_get (D := E.1) (ci := 11) (v := .ref pl) (C := RX11) (T := TX11) (N := 9) hx hb hts inX11 hown hK hP 0 rfl rfl 5 (by decide) fl51 (fun _ h9 => h9) rfl dX11_planned_81 ?_
          refine va_get (D := E.1) (ci := 5) (v := .ref k4) (C := RX5) (T := TX5) (N := 8) hx hb hts inX5 hown hK hP 1 rfl rfl 4 (by decide) fl227 (fun _ h9 => h9) rfl dX11_planned_84 ?_
          refine lv_iload_n hx hb dX11_planned_87 rfl (lv_at hl 1 rfl) ?_
          refine lv_bipush (v := 20) hx hb dX11_planned_88 (by decide) ?_
          refine lv_isub hx hb dX11_planned_90 ?_
          refine lv_topi (fun x_16 ex_16 => ?_)
          have hi_17 : vp_in x_16 7 := by rw [ex_16]; exact pl_ix (a := 20) b_15 ex_10 hon (by decide) (by decide)
          refine va_iald hx hb hK hP 3 0 rfl rfl hi_17 dX11_planned_91 ?_
          refine lv_topi (fun x_18 ex_18 => ?_)
          have hP9 := hP.sub (ws' := [(h0, .inr (11, [.ref tp, .ref rd, .ref se, .ref ba, .ref of, .ref pl, .ref sr, .ref sc, .int wk])), (pl, .inr (5, [.ref of, .ref k1, .ref k2, .ref k3, .ref k4, .int md, .int dn, .int fsu])), (k3, .inl (E.2.1 0, 7, .inl f3)), (k4, .inl (E.2.1 0, 7, .inl f4)), (of, .inr (2, [.ref g1, .ref g2, .ref g3, .ref g4, .ref g5, .int (nI on), .ref g6, .ref g7, .ref g8]))]) [0, 1, 2, 3, 4] rfl
          have hD9 := hD.sub (ws' := [(h0, .inr (11, [.ref tp, .ref rd, .ref se, .ref ba, .ref of, .ref pl, .ref sr, .ref sc, .int wk])), (pl, .inr (5, [.ref of, .ref k1, .ref k2, .ref k3, .ref k4, .int md, .int dn, .int fsu])), (k3, .inl (E.2.1 0, 7, .inl f3)), (k4, .inl (E.2.1 0, 7, .inl f4)), (of, .inr (2, [.ref g1, .ref g2, .ref g3, .ref g4, .ref g5, .int (nI on), .ref g6, .ref g7, .ref g8]))]) [0, 1, 2, 3, 4] (by decide) rfl
          exact W.iret (v := x_18) hx hb hr (fun t ht hW => ⟨⟨x_18, (), rfl, trivial, by rw [ht]; exact hP9, hD9⟩, hS.F ht⟩) hS.2.2 dX11_planned_92
      · have b_19 : inR what 10 x_4 = true := bn hw_6 c_7
        refine lv_aload_n hx hb dX11_planned_46 rfl (lv_at hl 0 rfl) ?_
        refine va_get (D := E.1) (ci := 11) (v := .ref pl) (C := RX11) (T := TX11) (N := 9) hx hb hts inX11 hown hK hP 0 rfl rfl 5 (by decide) fl51 (fun _ h9 => h9) rfl dX11_planned_47 ?_
        refine va_get (D := E.1) (ci := 5) (v := .ref k3) (C := RX5) (T := TX5) (N := 8) hx hb hts inX5 hown hK hP 1 rfl rfl 3 (by decide) fl224 (fun _ h9 => h9) rfl dX11_planned_50 ?_
        refine lv_iload_n hx hb dX11_planned_53 rfl (lv_at hl 1 rfl) ?_
        refine lv_bipush (v := 10) hx hb dX11_planned_54 (by decide) ?_
        refine lv_isub hx hb dX11_planned_56 ?_
        refine lv_topi (fun x_20 ex_20 => ?_)
        have hi_21 : vp_in x_20 7 := by rw [ex_20]; exact pl_ix (a := 10) b_19 ex_4 hon (by decide) (by decide)
        refine va_iald hx hb hK hP 2 0 rfl rfl hi_21 dX11_planned_57 ?_
        refine lv_topi (fun x_22 ex_22 => ?_)
        have hP9 := hP.sub (ws' := [(h0, .inr (11, [.ref tp, .ref rd, .ref se, .ref ba, .ref of, .ref pl, .ref sr, .ref sc, .int wk])), (pl, .inr (5, [.ref of, .ref k1, .ref k2, .ref k3, .ref k4, .int md, .int dn, .int fsu])), (k3, .inl (E.2.1 0, 7, .inl f3)), (k4, .inl (E.2.1 0, 7, .inl f4)), (of, .inr (2, [.ref g1, .ref g2, .ref g3, .ref g4, .ref g5, .int (nI on), .ref g6, .ref g7, .ref g8]))]) [0, 1, 2, 3, 4] rfl
        have hD9 := hD.sub (ws' := [(h0, .inr (11, [.ref tp, .ref rd, .ref se, .ref ba, .ref of, .ref pl, .ref sr, .ref sc, .int wk])), (pl, .inr (5, [.ref of, .ref k1, .ref k2, .ref k3, .ref k4, .int md, .int dn, .int fsu])), (k3, .inl (E.2.1 0, 7, .inl f3)), (k4, .inl (E.2.1 0, 7, .inl f4)), (of, .inr (2, [.ref g1, .ref g2, .ref g3, .ref g4, .ref g5, .int (nI on), .ref g6, .ref g7, .ref g8]))]) [0, 1, 2, 3, 4] (by decide) rfl
        exact W.iret (v := x_22) hx hb hr (fun t ht hW => ⟨⟨x_22, (), rfl, trivial, by rw [ht]; exact hP9, hD9⟩, hS.F ht⟩) hS.2.2 dX11_planned_58
    · refine lv_aload_n hx hb dX11_planned_17 rfl (lv_at hl 0 rfl) ?_
      refine va_get (D := E.1) (ci := 11) (v := .ref pl) (C := RX11) (T := TX11) (N := 9) hx hb hts inX11 hown hK hP 0 rfl rfl 5 (by decide) fl51 (fun _ h9 => h9) rfl dX11_planned_18 ?_
      refine va_get (D := E.1) (ci := 5) (v := .int fsu) (C := RX5) (T := TX5) (N := 8) hx hb hts inX5 hown hK hP 1 rfl rfl 7 (by decide) fl221 (fun _ h9 => h9) rfl dX11_planned_21 ?_
      have hP9 := hP.sub (ws' := [(h0, .inr (11, [.ref tp, .ref rd, .ref se, .ref ba, .ref of, .ref pl, .ref sr, .ref sc, .int wk])), (pl, .inr (5, [.ref of, .ref k1, .ref k2, .ref k3, .ref k4, .int md, .int dn, .int fsu])), (k3, .inl (E.2.1 0, 7, .inl f3)), (k4, .inl (E.2.1 0, 7, .inl f4)), (of, .inr (2, [.ref g1, .ref g2, .ref g3, .ref g4, .ref g5, .int (nI on), .ref g6, .ref g7, .ref g8]))]) [0, 1, 2, 3, 4] rfl
      have hD9 := hD.sub (ws' := [(h0, .inr (11, [.ref tp, .ref rd, .ref se, .ref ba, .ref of, .ref pl, .ref sr, .ref sc, .int wk])), (pl, .inr (5, [.ref of, .ref k1, .ref k2, .ref k3, .ref k4, .int md, .int dn, .int fsu])), (k3, .inl (E.2.1 0, 7, .inl f3)), (k4, .inl (E.2.1 0, 7, .inl f4)), (of, .inr (2, [.ref g1, .ref g2, .ref g3, .ref g4, .ref g5, .int (nI on), .ref g6, .ref g7, .ref g8]))]) [0, 1, 2, 3, 4] (by decide) rfl
      exact W.iret (v := fsu) hx hb hr (fun t ht hW => ⟨⟨fsu, (), rfl, trivial, by rw [ht]; exact hP9, hD9⟩, hS.F ht⟩) hS.2.2 dX11_planned_24
  · refine lv_bipush (v := (-9)) hx hb dX11_planned_10 (by decide) ?_
    have hP9 := hP.sub (ws' := [(h0, .inr (11, [.ref tp, .ref rd, .ref se, .ref ba, .ref of, .ref pl, .ref sr, .ref sc, .int wk])), (pl, .inr (5, [.ref of, .ref k1, .ref k2, .ref k3, .ref k4, .int md, .int dn, .int fsu])), (k3, .inl (E.2.1 0, 7, .inl f3)), (k4, .inl (E.2.1 0, 7, .inl f4)), (of, .inr (2, [.ref g1, .ref g2, .ref g3, .ref g4, .ref g5, .int (nI on), .ref g6, .ref g7, .ref g8]))]) [0, 1, 2, 3, 4] rfl
    have hD9 := hD.sub (ws' := [(h0, .inr (11, [.ref tp, .ref rd, .ref se, .ref ba, .ref of, .ref pl, .ref sr, .ref sc, .int wk])), (pl, .inr (5, [.ref of, .ref k1, .ref k2, .ref k3, .ref k4, .int md, .int dn, .int fsu])), (k3, .inl (E.2.1 0, 7, .inl f3)), (k4, .inl (E.2.1 0, 7, .inl f4)), (of, .inr (2, [.ref g1, .ref g2, .ref g3, .ref g4, .ref g5, .int (nI on), .ref g6, .ref g7, .ref g8]))]) [0, 1, 2, 3, 4] (by decide) rfl
    exact W.iret (v := (-9)) hx hb hr (fun t ht hW => ⟨⟨(-9), (), rfl, trivial, by rw [ht]; exact hP9, hD9⟩, hS.F ht⟩) hS.2.2 dX11_planned_12
set_option maxHeartbeats 4000000 in
set_option maxRecDepth 100000 in
theorem c_X11_count (l : Launch) (E : vE) (h0 : Nat) (tp : Nat) (rd : Nat) (se : Nat) (ba : Nat) (of : Nat) (pl : Nat) (sr : Nat) (sc : Nat) (wk : Int32) (bo_ : Nat) (sp : Nat) (pa : Nat) (ru : Nat) (co : Nat) (tr : Nat) (lt : Int32) (fb : Nat → Option Nat) (t1 : Nat) (t2 : Nat) (t3 : Nat) (t4 : Nat) (sq : Int32) (bx : Nat) (bm_ : Nat) (lq : Int32) (mq : Int32) (lw : Int32) (wi : Nat) (po : Nat) (fo_ : Nat → Int32) (g1 : Nat) (g2 : Nat) (g3 : Nat) (g4 : Nat) (g5 : Nat) (g6 : Nat) (g7 : Nat) (g8 : Nat) (on : Nat) (d6 : Nat → Int32) (by_ : Nat) (ln : Nat) (what : Int32) (sz : Nat) (hfb10 : inR what 10 15 = true → fb (what - 10).toNatClampNeg = some bo_) (hfb20 : inR what 20 25 = true → fb (what - 20).toNatClampNeg = some bo_) : Met l yX11_count wsX11_count ({ frames := 2, cells := 0, slots := 0, locals := 40 }) (pcW E [.ref h0, .int what] sz [(h0, .inr (11, [.ref tp, .ref rd, .ref se, .ref ba, .ref of, .ref pl, .ref sr, .ref sc, .int wk])), (ba, .inl (E.2.1 4, 6, .inr (.inr (.inr (.inr fb))))), (bo_, .inr (0, [.ref sp, .ref pa, .int lt, .ref ru, .ref co, .ref tr])), (ru, .inr (7, [.ref t1, .ref t2, .ref t3, .ref t4, .int sq])), (co, .inr (1, [.ref bx, .int (nI bm_), .int lq, .int mq, .int lw])), (se, .inr (8, [.ref wi, .ref po])), (po, .inl (E.2.1 0, 10, .inl fo_)), (of, .inr (2, [.ref g1, .ref g2, .ref g3, .ref g4, .ref g5, .int (nI on), .ref g6, .ref g7, .ref g8])), (g6, .inl (E.2.1 0, 4, .inl d6)), (tp, .inr (9, [.ref by_, .int (nI ln)]))]) (va_Qi (fun (r : Int32) (_ : Unit) => True) (fun (_ : Unit) (t : State) => wB E (va_A [(h0, .inr (11, [.ref tp, .ref rd, .ref se, .ref ba, .ref of, .ref pl, .ref sr, .ref sc, .int wk])), (ba, .inl (E.2.1 4, 6, .inr (.inr (.inr (.inr fb))))), (bo_, .inr (0, [.ref sp, .ref pa, .int lt, .ref ru, .ref co, .ref tr])), (ru, .inr (7, [.ref t1, .ref t2, .ref t3, .ref t4, .int sq])), (co, .inr (1, [.ref bx, .int (nI bm_), .int lq, .int mq, .int lw])), (se, .inr (8, [.ref wi, .ref po])), (po, .inl (E.2.1 0, 10, .inl fo_)), (of, .inr (2, [.ref g1, .ref g2, .ref g3, .ref g4, .ref g5, .int (nI on), .ref g6, .ref g7, .ref g8])), (g6, .inl (E.2.1 0, 4, .inl d6)), (tp, .inr (9, [.ref by_, .int (nI ln)]))] sz) [(h0, .inr (11, [.ref tp, .ref rd, .ref se, .ref ba, .ref of, .ref pl, .ref sr, .ref sc, .int wk])), (ba, .inl (E.2.1 4, 6, .inr (.inr (.inr (.inr fb))))), (bo_, .inr (0, [.ref sp, .ref pa, .int lt, .ref ru, .ref co, .ref tr])), (ru, .inr (7, [.ref t1, .ref t2, .ref t3, .ref t4, .int sq])), (co, .inr (1, [.ref bx, .int (nI bm_), .int lq, .int mq, .int lw])), (se, .inr (8, [.ref wi, .ref po])), (po, .inl (E.2.1 0, 10, .inl fo_)), (of, .inr (2, [.ref g1, .ref g2, .ref g3, .ref g4, .ref g5, .int (nI on), .ref g6, .ref g7, .ref g8])), (g6, .inl (E.2.1 0, 4, .inl d6)), (tp, .inr (9, [.ref by_, .int (nI ln)]))] t) (va_A [(h0, .inr (11, [.ref tp, .ref rd, .ref se, .ref ba, .ref of, .ref pl, .ref sr, .ref sc, .int wk])), (ba, .inl (E.2.1 4, 6, .inr (.inr (.inr (.inr fb))))), (bo_, .inr (0, [.ref sp, .ref pa, .int lt, .ref ru, .ref co, .ref tr])), (ru, .inr (7, [.ref t1, .ref t2, .ref t3, .ref t4, .int sq])), (co, .inr (1, [.ref bx, .int (nI bm_), .int lq, .int mq, .int lw])), (se, .inr (8, [.ref wi, .ref po])), (po, .inl (E.2.1 0, 10, .inl fo_)), (of, .inr (2, [.ref g1, .ref g2, .ref g3, .ref g4, .ref g5, .int (nI on), .ref g6, .ref g7, .ref g8])), (g6, .inl (E.2.1 0, 4, .inl d6)), (tp, .inr (9, [.ref by_, .int (nI ln)]))] sz)) 0 0 (va_A [(h0, .inr (11, [.ref tp, .ref rd, .ref se, .ref ba, .ref of, .ref pl, .ref sr, .ref sc, .int wk])), (ba, .inl (E.2.1 4, 6, .inr (.inr (.inr (.inr fb))))), (bo_, .inr (0, [.ref sp, .ref pa, .int lt, .ref ru, .ref co, .ref tr])), (ru, .inr (7, [.ref t1, .ref t2, .ref t3, .ref t4, .int sq])), (co, .inr (1, [.ref bx, .int (nI bm_), .int lq, .int mq, .int lw])), (se, .inr (8, [.ref wi, .ref po])), (po, .inl (E.2.1 0, 10, .inl fo_)), (of, .inr (2, [.ref g1, .ref g2, .ref g3, .ref g4, .ref g5, .int (nI on), .ref g6, .ref g7, .ref g8])), (g6, .inl (E.2.1 0, 4, .inl d6)), (tp, .inr (9, [.ref by_, .int (nI ln)]))] sz) := by
  refine Met.ofW (cc := cX11_count) (maxL := 2) (ret := (some .int)) (by decide) rfl ?_
  intro p e s m args below meth c s₁ B hml hv
  obtain ⟨rfl, hsz, hP, hkn, hD0, hst⟩ := hv
  have hx := B.exec
  have hb := B.bytes
  have hr := B.returns
  have hts := atoms_spec (ws := wsX11_count) B.pre
  have hown : s.vm.findClass RX11 = some m.cls := findClass_of_methodNamed B.named
  have hlocks := B.notSynchronized
  subst hsz
  have hD := hD0.self (sz := s.heap.size)
  have hK := hkn.1
  have hAO := hkn.2.2.1
  generalize hAe : va_A [(h0, .inr (11, [.ref tp, .ref rd, .ref se, .ref ba, .ref of, .ref pl, .ref sr, .ref sc, .int wk])), (ba, .inl (E.2.1 4, 6, .inr (.inr (.inr (.inr fb))))), (bo_, .inr (0, [.ref sp, .ref pa, .int lt, .ref ru, .ref co, .ref tr])), (ru, .inr (7, [.ref t1, .ref t2, .ref t3, .ref t4, .int sq])), (co, .inr (1, [.ref bx, .int (nI bm_), .int lq, .int mq, .int lw])), (se, .inr (8, [.ref wi, .ref po])), (po, .inl (E.2.1 0, 10, .inl fo_)), (of, .inr (2, [.ref g1, .ref g2, .ref g3, .ref g4, .ref g5, .int (nI on), .ref g6, .ref g7, .ref g8])), (g6, .inl (E.2.1 0, 4, .inl d6)), (tp, .inr (9, [.ref by_, .int (nI ln)]))] s.heap.size = A at hD hst ⊢
  have hA : ∀ q : Nat, s.heap.size ≤ q → A q := fun q h => by rw [← hAe]; exact Or.inr h
  have hS : va_S A s.heap s.heap [] := va_S.rf
  have hP : va_P E.1 vwCl [(h0, .inr (11, [.ref tp, .ref rd, .ref se, .ref ba, .ref of, .ref pl, .ref sr, .ref sc, .int wk])), (ba, .inl (E.2.1 4, 6, .inr (.inr (.inr (.inr fb))))), (bo_, .inr (0, [.ref sp, .ref pa, .int lt, .ref ru, .ref co, .ref tr])), (ru, .inr (7, [.ref t1, .ref t2, .ref t3, .ref t4, .int sq])), (co, .inr (1, [.ref bx, .int (nI bm_), .int lq, .int mq, .int lw])), (se, .inr (8, [.ref wi, .ref po])), (po, .inl (E.2.1 0, 10, .inl fo_)), (of, .inr (2, [.ref g1, .ref g2, .ref g3, .ref g4, .ref g5, .int (nI on), .ref g6, .ref g7, .ref g8])), (g6, .inl (E.2.1 0, 4, .inl d6)), (tp, .inr (9, [.ref by_, .int (nI ln)]))] s.heap := hP
  have hl := lv_entry ([.ref h0, .int what]) (n := 2) (Nat.le_of_ble_eq_true rfl)
  rw [lg_entry_eq]
  generalize (lg_sl ([.ref h0, .int what]) ++ List.replicate (2 - (lg_sl ([.ref h0, .int what])).length) Slot.unset).toArray = ls at hl ⊢
  have hl : lv_has ls 2 [(0, .ref h0), (1, .int what)] := hl
  have fl10 := hts (.fieldLink RX11 10 "BoatsHome" "tape" "LBoatsHome$Tape;") (by first | exact List.mem_of_getElem? (i := 11) rfl | decide +kernel)
  have fl28 := hts (.fieldLink RX11 28 "BoatsHome" "sea" "LBoatsHome$Sea;") (by first | exact List.mem_of_getElem? (i := 6) rfl | decide +kernel)
  have fl34 := hts (.fieldLink RX11 34 "BoatsHome" "boats" "[LBoatsHome$Boat;") (by first | exact List.mem_of_getElem? (i := 1) rfl | decide +kernel)
  have fl42 := hts (.fieldLink RX11 42 "BoatsHome" "offers" "LBoatsHome$Offers;") (by first | exact List.mem_of_getElem? (i := 9) rfl | decide +kernel)
  have fl69 := hts (.fieldLink RX11 69 "BoatsHome" "worked" "I") (by first | exact List.mem_of_getElem? (i := 8) rfl | decide +kernel)
  have fl73 := hts (.fieldLink RX11 73 "BoatsHome$Tape" "length" "I") (by first | exact List.mem_of_getElem? (i := 12) rfl | decide +kernel)
  have fl96 := hts (.fieldLink RX11 96 "BoatsHome$Sea" "ports" "[I") (by first | exact List.mem_of_getElem? (i := 7) rfl | decide +kernel)
  have fl118 := hts (.fieldLink RX11 118 "BoatsHome$Boat" "rules" "LBoatsHome$Rules;") (by first | exact List.mem_of_getElem? (i := 2) rfl | decide +kernel)
  have fl121 := hts (.fieldLink RX11 121 "BoatsHome$Rules" "size" "I") (by first | exact List.mem_of_getElem? (i := 3) rfl | decide +kernel)
  have fl128 := hts (.fieldLink RX11 128 "BoatsHome$Boat" "cover" "LBoatsHome$Cover;") (by first | exact List.mem_of_getElem? (i := 4) rfl | decide +kernel)
  have fl197 := hts (.fieldLink RX11 197 "BoatsHome$Offers" "size" "I") (by first | exact List.mem_of_getElem? (i := 10) rfl | decide +kernel)
  have fl230 := hts (.fieldLink RX11 230 "BoatsHome$Cover" "boxCount" "I") (by first | exact List.mem_of_getElem? (i := 5) rfl | decide +kernel)
  have inX0 : ∀ w ∈ u_ws RX0 TX0 6, w ∈ wsX11_count := by first | exact fun w h9 => (List.mem_cons_of_mem _ (List.mem_append_left _ (List.mem_append_left _ (List.mem_append_left _ (List.mem_append_left _ (List.mem_append_left _ (List.mem_append_right _ h9))))))) | decide +kernel
  have inX1 : ∀ w ∈ u_ws RX1 TX1 5, w ∈ wsX11_count := by first | exact fun w h9 => (List.mem_cons_of_mem _ (List.mem_append_left _ (List.mem_append_left _ (List.mem_append_left _ (List.mem_append_right _ h9))))) | decide +kernel
  have inX11 : ∀ w ∈ u_ws RX11 TX11 9, w ∈ wsX11_count := by first | exact fun w h9 => (List.mem_cons_of_mem _ (List.mem_append_left _ (List.mem_append_left _ (List.mem_append_left _ (List.mem_append_left _ (List.mem_append_left _ (List.mem_append_left _ (List.mem_append_right _ h9)))))))) | decide +kernel
  have inX2 : ∀ w ∈ u_ws RX2 TX2 9, w ∈ wsX11_count := by first | exact fun w h9 => (List.mem_cons_of_mem _ (List.mem_append_left _ (List.mem_append_right _ h9))) | decide +kernel
  have inX7 : ∀ w ∈ u_ws RX7 TX7 5, w ∈ wsX11_count := by first | exact fun w h9 => (List.mem_cons_of_mem _ (List.mem_append_left _ (List.mem_append_left _ (List.mem_append_left _ (List.mem_append_left _ (List.mem_append_right _ h9)))))) | decide +kernel
  have inX8 : ∀ w ∈ u_ws RX8 TX8 2, w ∈ wsX11_count := by first | exact fun w h9 => (List.mem_cons_of_mem _ (List.mem_append_left _ (List.mem_append_left _ (List.mem_append_right _ h9)))) | decide +kernel
  have inX9 : ∀ w ∈ u_ws RX9 TX9 2, w ∈ wsX11_count := by first | exact fun w h9 => (List.mem_cons_of_mem _ (List.mem_append_right _ h9)) | decide +kernel
  refine lv_iload_n hx hb dX11_count_0 rfl (lv_at hl 1 rfl) ?_
  refine lv_bipush (v := 10) hx hb dX11_count_1 (by decide) ?_
  refine lv_bipush (v := 15) hx hb dX11_count_3 (by decide) ?_
  have hPc := hP.sub (ws' := []) [] rfl
  have hDc := hD.sub (ws' := []) [] (by decide) rfl
  have hFc := va_free (wc := []) hD hS hA [] rfl
  refine va_calli (va_runS (As := [.int what, .int 10, .int 15]) (rest := []) ⟨hx, hb, hml, hown, hts⟩ (c_X11_within l E what 10 15 s.heap.size ) (va_cwS 3 hts gX11_count_X11_within rfl rfl rfl hdS_X11_within ⟨Nat.le_of_ble_eq_true rfl, Nat.le_of_ble_eq_true rfl⟩) ⟨pcW_blind, (pcW_pre hPc hkn hDc hst hS hFc)⟩ rfl rfl hl.1 rfl (lv_room (Nat.le_of_ble_eq_true rfl)) dX11_count_5 ⟨Nat.le_of_ble_eq_true rfl, Nat.le_of_ble_eq_true rfl⟩) hS (fun q _ h => hFc q h) hFc (fun r_1 u t H1 locs ht hvm hw_2 hB hz1 hk1 hS => ?_)
  obtain ⟨hP1, hD1⟩ := hB
  rw [ht] at hP1
  try dsimp only at hw_2
  obtain ⟨hP, hD⟩ := va_join (wr := [(h0, .inr (11, [.ref tp, .ref rd, .ref se, .ref ba, .ref of, .ref pl, .ref sr, .ref sc, .int wk])), (ba, .inl (E.2.1 4, 6, .inr (.inr (.inr (.inr fb))))), (bo_, .inr (0, [.ref sp, .ref pa, .int lt, .ref ru, .ref co, .ref tr])), (ru, .inr (7, [.ref t1, .ref t2, .ref t3, .ref t4, .int sq])), (co, .inr (1, [.ref bx, .int (nI bm_), .int lq, .int mq, .int lw])), (se, .inr (8, [.ref wi, .ref po])), (po, .inl (E.2.1 0, 10, .inl fo_)), (of, .inr (2, [.ref g1, .ref g2, .ref g3, .ref g4, .ref g5, .int (nI on), .ref g6, .ref g7, .ref g8])), (g6, .inl (E.2.1 0, 4, .inl d6)), (tp, .inr (9, [.ref by_, .int (nI ln)]))]) (w1 := []) hP hD [] [0, 1, 2, 3, 4, 5, 6, 7, 8, 9] rfl rfl (by decide) (by decide) hk1 hFc hP1 hD1
  generalize H1 = H at hP hS ⊢
  have hP : va_P E.1 vwCl [(h0, .inr (11, [.ref tp, .ref rd, .ref se, .ref ba, .ref of, .ref pl, .ref sr, .ref sc, .int wk])), (ba, .inl (E.2.1 4, 6, .inr (.inr (.inr (.inr fb))))), (bo_, .inr (0, [.ref sp, .ref pa, .int lt, .ref ru, .ref co, .ref tr])), (ru, .inr (7, [.ref t1, .ref t2, .ref t3, .ref t4, .int sq])), (co, .inr (1, [.ref bx, .int (nI bm_), .int lq, .int mq, .int lw])), (se, .inr (8, [.ref wi, .ref po])), (po, .inl (E.2.1 0, 10, .inl fo_)), (of, .inr (2, [.ref g1, .ref g2, .ref g3, .ref g4, .ref g5, .int (nI on), .ref g6, .ref g7, .ref g8])), (g6, .inl (E.2.1 0, 4, .inl d6)), (tp, .inr (9, [.ref by_, .int (nI ln)]))] H := hP
  have hD : va_D A [(h0, .inr (11, [.ref tp, .ref rd, .ref se, .ref ba, .ref of, .ref pl, .ref sr, .ref sc, .int wk])), (ba, .inl (E.2.1 4, 6, .inr (.inr (.inr (.inr fb))))), (bo_, .inr (0, [.ref sp, .ref pa, .int lt, .ref ru, .ref co, .ref tr])), (ru, .inr (7, [.ref t1, .ref t2, .ref t3, .ref t4, .int sq])), (co, .inr (1, [.ref bx, .int (nI bm_), .int lq, .int mq, .int lw])), (se, .inr (8, [.ref wi, .ref po])), (po, .inl (E.2.1 0, 10, .inl fo_)), (of, .inr (2, [.ref g1, .ref g2, .ref g3, .ref g4, .ref g5, .int (nI on), .ref g6, .ref g7, .ref g8])), (g6, .inl (E.2.1 0, 4, .inl d6)), (tp, .inr (9, [.ref by_, .int (nI ln)]))] := hD
  refine lv_if_eq (tgt := 27) hx hb dX11_count_8 (by decide) (fun c_3 => ?_) (fun c_3 => ?_)
  · have b_4 : inR what 10 15 = false := bz hw_2 c_3
    refine lv_iload_n hx hb dX11_count_27 rfl (lv_at hl 1 rfl) ?_
    refine lv_bipush (v := 20) hx hb dX11_count_28 (by decide) ?_
    refine lv_bipush (v := 25) hx hb dX11_count_30 (by decide) ?_
    have hPc := hP.sub (ws' := []) [] rfl
    have hDc := hD.sub (ws' := []) [] (by decide) rfl
    have hFc := va_free (wc := []) hD hS hA [] rfl
    refine va_calli (va_runS (As := [.int what, .int 20, .int 25]) (rest := []) ⟨hx, hb, hml, hown, hts⟩ (c_X11_within l E what 20 25 H.size ) (va_cwS 3 hts gX11_count_X11_within rfl rfl rfl hdS_X11_within ⟨Nat.le_of_ble_eq_true rfl, Nat.le_of_ble_eq_true rfl⟩) ⟨pcW_blind, (pcW_pre hPc hkn hDc hst hS hFc)⟩ rfl rfl hl.1 rfl (lv_room (Nat.le_of_ble_eq_true rfl)) dX11_count_32 ⟨Nat.le_of_ble_eq_true rfl, Nat.le_of_ble_eq_true rfl⟩) hS (fun q _ h => hFc q h) hFc (fun r_5 u t H1 locs ht hvm hw_6 hB hz1 hk1 hS => ?_)
    obtain ⟨hP1, hD1⟩ := hB
    rw [ht] at hP1
    try dsimp only at hw_6
    obtain ⟨hP, hD⟩ := va_join (wr := [(h0, .inr (11, [.ref tp, .ref rd, .ref se, .ref ba, .ref of, .ref pl, .ref sr, .ref sc, .int wk])), (ba, .inl (E.2.1 4, 6, .inr (.inr (.inr (.inr fb))))), (bo_, .inr (0, [.ref sp, .ref pa, .int lt, .ref ru, .ref co, .ref tr])), (ru, .inr (7, [.ref t1, .ref t2, .ref t3, .ref t4, .int sq])), (co, .inr (1, [.ref bx, .int (nI bm_), .int lq, .int mq, .int lw])), (se, .inr (8, [.ref wi, .ref po])), (po, .inl (E.2.1 0, 10, .inl fo_)), (of, .inr (2, [.ref g1, .ref g2, .ref g3, .ref g4, .ref g5, .int (nI on), .ref g6, .ref g7, .ref g8])), (g6, .inl (E.2.1 0, 4, .inl d6)), (tp, .inr (9, [.ref by_, .int (nI ln)]))]) (w1 := []) hP hD [] [0, 1, 2, 3, 4, 5, 6, 7, 8, 9] rfl rfl (by decide) (by decide) hk1 hFc hP1 hD1
    generalize H1 = H at hP hS ⊢
    have hP : va_P E.1 vwCl [(h0, .inr (11, [.ref tp, .ref rd, .ref se, .ref ba, .ref of, .ref pl, .ref sr, .ref sc, .int wk])), (ba, .inl (E.2.1 4, 6, .inr (.inr (.inr (.inr fb))))), (bo_, .inr (0, [.ref sp, .ref pa, .int lt, .ref ru, .ref co, .ref tr])), (ru, .inr (7, [.ref t1, .ref t2, .ref t3, .ref t4, .int sq])), (co, .inr (1, [.ref bx, .int (nI bm_), .int lq, .int mq, .int lw])), (se, .inr (8, [.ref wi, .ref po])), (po, .inl (E.2.1 0, 10, .inl fo_)), (of, .inr (2, [.ref g1, .ref g2, .ref g3, .ref g4, .ref g5, .int (nI on), .ref g6, .ref g7, .ref g8])), (g6, .inl (E.2.1 0, 4, .inl d6)), (tp, .inr (9, [.ref by_, .int (nI ln)]))] H := hP
    have hD : va_D A [(h0, .inr (11, [.ref tp, .ref rd, .ref se, .ref ba, .ref of, .ref pl, .ref sr, .ref sc, .int wk])), (ba, .inl (E.2.1 4, 6, .inr (.inr (.inr (.inr fb))))), (bo_, .inr (0, [.ref sp, .ref pa, .int lt, .ref ru, .ref co, .ref tr])), (ru, .inr (7, [.ref t1, .ref t2, .ref t3, .ref t4, .int sq])), (co, .inr (1, [.ref bx, .int (nI bm_), .int lq, .int mq, .int lw])), (se, .inr (8, [.ref wi, .ref po])), (po, .inl (E.2.1 0, 10, .inl fo_)), (of, .inr (2, [.ref g1, .ref g2, .ref g3, .ref g4, .ref g5, .int (nI on), .ref g6, .ref g7, .ref g8])), (g6, .inl (E.2.1 0, 4, .inl d6)), (tp, .inr (9, [.ref by_, .int (nI ln)]))] := hD
    refine lv_if_eq (tgt := 54) hx hb dX11_count_35 (by decide) (fun c_7 => ?_) (fun c_7 => ?_)
    · have b_8 : inR what 20 25 = false := bz hw_6 c_7
      refine lv_iload_n hx hb dX11_count_54 rfl (lv_at hl 1 rfl) ?_
      refine lv_bipush (v := 30) hx hb dX11_count_55 (by decide) ?_
      refine lv_bipush (v := 39) hx hb dX11_count_57 (by decide) ?_
      have hPc := hP.sub (ws' := []) [] rfl
      have hDc := hD.sub (ws' := []) [] (by decide) rfl
      have hFc := va_free (wc := []) hD hS hA [] rfl
      refine va_calli (va_runS (As := [.int what, .int 30, .int 39]) (rest := []) ⟨hx, hb, hml, hown, hts⟩ (c_X11_within l E what 30 39 H.size ) (va_cwS 3 hts gX11_count_X11_within rfl rfl rfl hdS_X11_within ⟨Nat.le_of_ble_eq_true rfl, Nat.le_of_ble_eq_true rfl⟩) ⟨pcW_blind, (pcW_pre hPc hkn hDc hst hS hFc)⟩ rfl rfl hl.1 rfl (lv_room (Nat.le_of_ble_eq_true rfl)) dX11_count_59 ⟨Nat.le_of_ble_eq_true rfl, Nat.le_of_ble_eq_true rfl⟩) hS (fun q _ h => hFc q h) hFc (fun r_9 u t H1 locs ht hvm hw_10 hB hz1 hk1 hS => ?_)
      obtain ⟨hP1, hD1⟩ := hB
      rw [ht] at hP1
      try dsimp only at hw_10
      obtain ⟨hP, hD⟩ := va_join (wr := [(h0, .inr (11, [.ref tp, .ref rd, .ref se, .ref ba, .ref of, .ref pl, .ref sr, .ref sc, .int wk])), (ba, .inl (E.2.1 4, 6, .inr (.inr (.inr (.inr fb))))), (bo_, .inr (0, [.ref sp, .ref pa, .int lt, .ref ru, .ref co, .ref tr])), (ru, .inr (7, [.ref t1, .ref t2, .ref t3, .ref t4, .int sq])), (co, .inr (1, [.ref bx, .int (nI bm_), .int lq, .int mq, .int lw])), (se, .inr (8, [.ref wi, .ref po])), (po, .inl (E.2.1 0, 10, .inl fo_)), (of, .inr (2, [.ref g1, .ref g2, .ref g3, .ref g4, .ref g5, .int (nI on), .ref g6, .ref g7, .ref g8])), (g6, .inl (E.2.1 0, 4, .inl d6)), (tp, .inr (9, [.ref by_, .int (nI ln)]))]) (w1 := []) hP hD [] [0, 1, 2, 3, 4, 5, 6, 7, 8, 9] rfl rfl (by decide) (by decide) hk1 hFc hP1 hD1
      generalize H1 = H at hP hS ⊢
      have hP : va_P E.1 vwCl [(h0, .inr (11, [.ref tp, .ref rd, .ref se, .ref ba, .ref of, .ref pl, .ref sr, .ref sc, .int wk])), (ba, .inl (E.2.1 4, 6, .inr (.inr (.inr (.inr fb))))), (bo_, .inr (0, [.ref sp, .ref pa, .int lt, .ref ru, .ref co, .ref tr])), (ru, .inr (7, [.ref t1, .ref t2, .ref t3, .ref t4, .int sq])), (co, .inr (1, [.ref bx, .int (nI bm_), .int lq, .int mq, .int lw])), (se, .inr (8, [.ref wi, .ref po])), (po, .inl (E.2.1 0, 10, .inl fo_)), (of, .inr (2, [.ref g1, .ref g2, .ref g3, .ref g4, .ref g5, .int (nI on), .ref g6, .ref g7, .ref g8])), (g6, .inl (E.2.1 0, 4, .inl d6)), (tp, .inr (9, [.ref by_, .int (nI ln)]))] H := hP
      have hD : va_D A [(h0, .inr (11, [.ref tp, .ref rd, .ref se, .ref ba, .ref of, .ref pl, .ref sr, .ref sc, .int wk])), (ba, .inl (E.2.1 4, 6, .inr (.inr (.inr (.inr fb))))), (bo_, .inr (0, [.ref sp, .ref pa, .int lt, .ref ru, .ref co, .ref tr])), (ru, .inr (7, [.ref t1, .ref t2, .ref t3, .ref t4, .int sq])), (co, .inr (1, [.ref bx, .int (nI bm_), .int lq, .int mq, .int lw])), (se, .inr (8, [.ref wi, .ref po])), (po, .inl (E.2.1 0, 10, .inl fo_)), (of, .inr (2, [.ref g1, .ref g2, .ref g3, .ref g4, .ref g5, .int (nI on), .ref g6, .ref g7, .ref g8])), (g6, .inl (E.2.1 0, 4, .inl d6)), (tp, .inr (9, [.ref by_, .int (nI ln)]))] := hD
      refine lv_if_eq (tgt := 78) hx hb dX11_count_62 (by decide) (fun c_11 => ?_) (fun c_11 => ?_)
      · have b_12 : inR what 30 39 = false := bz hw_10 c_11
        refine lv_iload_n hx hb dX11_count_78 rfl (lv_at hl 1 rfl) ?_
        by_cases c_13 : what = 0
        · refine lv_tableIn (tgt := 108) hx hb dX11_count_79 (by rw [c_13]; decide) (by rw [c_13]; decide) (off := 29) (by rw [c_13]; rfl) (by decide) ?_
          refine lv_aload_n hx hb dX11_count_108 rfl (lv_at hl 0 rfl) ?_
          refine va_get (D := E.1) (ci := 11) (v := .int wk) (C := RX11) (T := TX11) (N := 9) hx hb hts inX11 hown hK hP 0 rfl rfl 8 (by decide) fl69 (fun _ h9 => h9) rfl dX11_count_109 ?_
          have hP9 := hP.sub (ws' := [(h0, .inr (11, [.ref tp, .ref rd, .ref se, .ref ba, .ref of, .ref pl, .ref sr, .ref sc, .int wk])), (ba, .inl (E.2.1 4, 6, .inr (.inr (.inr (.inr fb))))), (bo_, .inr (0, [.ref sp, .ref pa, .int lt, .ref ru, .ref co, .ref tr])), (ru, .inr (7, [.ref t1, .ref t2, .ref t3, .ref t4, .int sq])), (co, .inr (1, [.ref bx, .int (nI bm_), .int lq, .int mq, .int lw])), (se, .inr (8, [.ref wi, .ref po])), (po, .inl (E.2.1 0, 10, .inl fo_)), (of, .inr (2, [.ref g1, .ref g2, .ref g3, .ref g4, .ref g5, .int (nI on), .ref g6, .ref g7, .ref g8])), (g6, .inl (E.2.1 0, 4, .inl d6)), (tp, .inr (9, [.ref by_, .int (nI ln)]))]) [0, 1, 2, 3, 4, 5, 6, 7, 8, 9] rfl
          have hD9 := hD.sub (ws' := [(h0, .inr (11, [.ref tp, .ref rd, .ref se, .ref ba, .ref of, .ref pl, .ref sr, .ref sc, .int wk])), (ba, .inl (E.2.1 4, 6, .inr (.inr (.inr (.inr fb))))), (bo_, .inr (0, [.ref sp, .ref pa, .int lt, .ref ru, .ref co, .ref tr])), (ru, .inr (7, [.ref t1, .ref t2, .ref t3, .ref t4, .int sq])), (co, .inr (1, [.ref bx, .int (nI bm_), .int lq, .int mq, .int lw])), (se, .inr (8, [.ref wi, .ref po])), (po, .inl (E.2.1 0, 10, .inl fo_)), (of, .inr (2, [.ref g1, .ref g2, .ref g3, .ref g4, .ref g5, .int (nI on), .ref g6, .ref g7, .ref g8])), (g6, .inl (E.2.1 0, 4, .inl d6)), (tp, .inr (9, [.ref by_, .int (nI ln)]))]) [0, 1, 2, 3, 4, 5, 6, 7, 8, 9] (by decide) rfl
          exact W.iret (v := wk) hx hb hr (fun t ht hW => ⟨⟨wk, (), rfl, trivial, by rw [ht]; exact hP9, hD9⟩, hS.F ht⟩) hS.2.2 dX11_count_112
        by_cases c_14 : what = 1
        · refine lv_tableIn (tgt := 113) hx hb dX11_count_79 (by rw [c_14]; decide) (by rw [c_14]; decide) (off := 34) (by rw [c_14]; rfl) (by decide) ?_
          refine lv_aload_n hx hb dX11_count_113 rfl (lv_at hl 0 rfl) ?_
          refine va_get (D := E.1) (ci := 11) (v := .ref of) (C := RX11) (T := TX11) (N := 9) hx hb hts inX11 hown hK hP 0 rfl rfl 4 (by decide) fl42 (fun _ h9 => h9) rfl dX11_count_114 ?_
          refine va_get (D := E.1) (ci := 2) (v := .int (nI on)) (C := RX2) (T := TX2) (N := 9) hx hb hts inX2 hown hK hP 7 rfl rfl 5 (by decide) fl197 (fun _ h9 => h9) rfl dX11_count_117 ?_
          have hP9 := hP.sub (ws' := [(h0, .inr (11, [.ref tp, .ref rd, .ref se, .ref ba, .ref of, .ref pl, .ref sr, .ref sc, .int wk])), (ba, .inl (E.2.1 4, 6, .inr (.inr (.inr (.inr fb))))), (bo_, .inr (0, [.ref sp, .ref pa, .int lt, .ref ru, .ref co, .ref tr])), (ru, .inr (7, [.ref t1, .ref t2, .ref t3, .ref t4, .int sq])), (co, .inr (1, [.ref bx, .int (nI bm_), .int lq, .int mq, .int lw])), (se, .inr (8, [.ref wi, .ref po])), (po, .inl (E.2.1 0, 10, .inl fo_)), (of, .inr (2, [.ref g1, .ref g2, .ref g3, .ref g4, .ref g5, .int (nI on), .ref g6, .ref g7, .ref g8])), (g6, .inl (E.2.1 0, 4, .inl d6)), (tp, .inr (9, [.ref by_, .int (nI ln)]))]) [0, 1, 2, 3, 4, 5, 6, 7, 8, 9] rfl
          have hD9 := hD.sub (ws' := [(h0, .inr (11, [.ref tp, .ref rd, .ref se, .ref ba, .ref of, .ref pl, .ref sr, .ref sc, .int wk])), (ba, .inl (E.2.1 4, 6, .inr (.inr (.inr (.inr fb))))), (bo_, .inr (0, [.ref sp, .ref pa, .int lt, .ref ru, .ref co, .ref tr])), (ru, .inr (7, [.ref t1, .ref t2, .ref t3, .ref t4, .int sq])), (co, .inr (1, [.ref bx, .int (nI bm_), .int lq, .int mq, .int lw])), (se, .inr (8, [.ref wi, .ref po])), (po, .inl (E.2.1 0, 10, .inl fo_)), (of, .inr (2, [.ref g1, .ref g2, .ref g3, .ref g4, .ref g5, .int (nI on), .ref g6, .ref g7, .ref g8])), (g6, .inl (E.2.1 0, 4, .inl d6)), (tp, .inr (9, [.ref by_, .int (nI ln)]))]) [0, 1, 2, 3, 4, 5, 6, 7, 8, 9] (by decide) rfl
          exact W.iret (v := (nI on)) hx hb hr (fun t ht hW => ⟨⟨(nI on), (), rfl, trivial, by rw [ht]; exact hP9, hD9⟩, hS.F ht⟩) hS.2.2 dX11_count_120
        by_cases c_15 : what = 2
        · refine lv_tableIn (tgt := 121) hx hb dX11_count_79 (by rw [c_15]; decide) (by rw [c_15]; decide) (off := 42) (by rw [c_15]; rfl) (by decide) ?_
          refine lv_aload_n hx hb dX11_count_121 rfl (lv_at hl 0 rfl) ?_
          refine va_get (D := E.1) (ci := 11) (v := .ref of) (C := RX11) (T := TX11) (N := 9) hx hb hts inX11 hown hK hP 0 rfl rfl 4 (by decide) fl42 (fun _ h9 => h9) rfl dX11_count_122 ?_
          have hPc := hP.sub (ws' := [(of, .inr (2, [.ref g1, .ref g2, .ref g3, .ref g4, .ref g5, .int (nI on), .ref g6, .ref g7, .ref g8])), (g6, .inl (E.2.1 0, 4, .inl d6))]) [7, 8] rfl
          have hDc := hD.sub (ws' := [(of, .inr (2, [.ref g1, .ref g2, .ref g3, .ref g4, .ref g5, .int (nI on), .ref g6, .ref g7, .ref g8])), (g6, .inl (E.2.1 0, 4, .inl d6))]) [7, 8] (by decide) rfl
          have hFc := va_free (wc := [(of, .inr (2, [.ref g1, .ref g2, .ref g3, .ref g4, .ref g5, .int (nI on), .ref g6, .ref g7, .ref g8])), (g6, .inl (E.2.1 0, 4, .inl d6))]) hD hS hA [7, 8] rfl
          refine va_calli (va_runV (As := []) (rest := []) ⟨hx, hb, hml, hown, hts⟩ (c_X2_crewsTold l E of g1 g2 g3 g4 g5 g6 g7 g8 on d6 H.size ) (cwV 0 hts gX11_count_X2_crewsTold rfl rfl rfl hdV_X2_crewsTold ⟨Nat.le_of_ble_eq_true rfl, Nat.le_of_ble_eq_true rfl⟩) ⟨pcW_blind, va_recv hK hPc (ci := 2) (q0 := 0) rfl rfl, (pcW_pre hPc hkn hDc hst hS hFc)⟩ rfl rfl hl.1 rfl (lv_room (Nat.le_of_ble_eq_true rfl)) dX11_count_125 ⟨Nat.le_of_ble_eq_true rfl, Nat.le_of_ble_eq_true rfl⟩) hS (fun q _ h => hFc q h) hFc (fun r_16 u t H1 locs ht hvm hw_17 hB hz1 hk1 hS => ?_)
          obtain ⟨hP1, hD1⟩ := hB
          rw [ht] at hP1
          try dsimp only at hw_17
          obtain ⟨hP, hD⟩ := va_join (wr := [(h0, .inr (11, [.ref tp, .ref rd, .ref se, .ref ba, .ref of, .ref pl, .ref sr, .ref sc, .int wk])), (ba, .inl (E.2.1 4, 6, .inr (.inr (.inr (.inr fb))))), (bo_, .inr (0, [.ref sp, .ref pa, .int lt, .ref ru, .ref co, .ref tr])), (ru, .inr (7, [.ref t1, .ref t2, .ref t3, .ref t4, .int sq])), (co, .inr (1, [.ref bx, .int (nI bm_), .int lq, .int mq, .int lw])), (se, .inr (8, [.ref wi, .ref po])), (po, .inl (E.2.1 0, 10, .inl fo_)), (tp, .inr (9, [.ref by_, .int (nI ln)]))]) (w1 := [(of, .inr (2, [.ref g1, .ref g2, .ref g3, .ref g4, .ref g5, .int (nI on), .ref g6, .ref g7, .ref g8])), (g6, .inl (E.2.1 0, 4, .inl d6))]) hP hD [7, 8] [0, 1, 2, 3, 4, 5, 6, 9] rfl rfl (by decide) (by decide) hk1 hFc hP1 hD1
          generalize H1 = H at hP hS ⊢
          have hP : va_P E.1 vwCl [(h0, .inr (11, [.ref tp, .ref rd, .ref se, .ref ba, .ref of, .ref pl, .ref sr, .ref sc, .int wk])), (ba, .inl (E.2.1 4, 6, .inr (.inr (.inr (.inr fb))))), (bo_, .inr (0, [.ref sp, .ref pa, .int lt, .ref ru, .ref co, .ref tr])), (ru, .inr (7, [.ref t1, .ref t2, .ref t3, .ref t4, .int sq])), (co, .inr (1, [.ref bx, .int (nI bm_), .int lq, .int mq, .int lw])), (se, .inr (8, [.ref wi, .ref po])), (po, .inl (E.2.1 0, 10, .inl fo_)), (tp, .inr (9, [.ref by_, .int (nI ln)])), (of, .inr (2, [.ref g1, .ref g2, .ref g3, .ref g4, .ref g5, .int (nI on), .ref g6, .ref g7, .ref g8])), (g6, .inl (E.2.1 0, 4, .inl d6))] H := hP
          have hD : va_D A [(h0, .inr (11, [.ref tp, .ref rd, .ref se, .ref ba, .ref of, .ref pl, .ref sr, .ref sc, .int wk])), (ba, .inl (E.2.1 4, 6, .inr (.inr (.inr (.inr fb))))), (bo_, .inr (0, [.ref sp, .ref pa, .int lt, .ref ru, .ref co, .ref tr])), (ru, .inr (7, [.ref t1, .ref t2, .ref t3, .ref t4, .int sq])), (co, .inr (1, [.ref bx, .int (nI bm_), .int lq, .int mq, .int lw])), (se, .inr (8, [.ref wi, .ref po])), (po, .inl (E.2.1 0, 10, .inl fo_)), (tp, .inr (9, [.ref by_, .int (nI ln)])), (of, .inr (2, [.ref g1, .ref g2, .ref g3, .ref g4, .ref g5, .int (nI on), .ref g6, .ref g7, .ref g8])), (g6, .inl (E.2.1 0, 4, .inl d6))] := hD
          have hP9 := hP.sub (ws' := [(h0, .inr (11, [.ref tp, .ref rd, .ref se, .ref ba, .ref of, .ref pl, .ref sr, .ref sc, .int wk])), (ba, .inl (E.2.1 4, 6, .inr (.inr (.inr (.inr fb))))), (bo_, .inr (0, [.ref sp, .ref pa, .int lt, .ref ru, .ref co, .ref tr])), (ru, .inr (7, [.ref t1, .ref t2, .ref t3, .ref t4, .int sq])), (co, .inr (1, [.ref bx, .int (nI bm_), .int lq, .int mq, .int lw])), (se, .inr (8, [.ref wi, .ref po])), (po, .inl (E.2.1 0, 10, .inl fo_)), (of, .inr (2, [.ref g1, .ref g2, .ref g3, .ref g4, .ref g5, .int (nI on), .ref g6, .ref g7, .ref g8])), (g6, .inl (E.2.1 0, 4, .inl d6)), (tp, .inr (9, [.ref by_, .int (nI ln)]))]) [0, 1, 2, 3, 4, 5, 6, 8, 9, 7] rfl
          have hD9 := hD.sub (ws' := [(h0, .inr (11, [.ref tp, .ref rd, .ref se, .ref ba, .ref of, .ref pl, .ref sr, .ref sc, .int wk])), (ba, .inl (E.2.1 4, 6, .inr (.inr (.inr (.inr fb))))), (bo_, .inr (0, [.ref sp, .ref pa, .int lt, .ref ru, .ref co, .ref tr])), (ru, .inr (7, [.ref t1, .ref t2, .ref t3, .ref t4, .int sq])), (co, .inr (1, [.ref bx, .int (nI bm_), .int lq, .int mq, .int lw])), (se, .inr (8, [.ref wi, .ref po])), (po, .inl (E.2.1 0, 10, .inl fo_)), (of, .inr (2, [.ref g1, .ref g2, .ref g3, .ref g4, .ref g5, .int (nI on), .ref g6, .ref g7, .ref g8])), (g6, .inl (E.2.1 0, 4, .inl d6)), (tp, .inr (9, [.ref by_, .int (nI ln)]))]) [0, 1, 2, 3, 4, 5, 6, 8, 9, 7] (by decide) rfl
          exact W.iret (v := r_16) hx hb hr (fun t ht hW => ⟨⟨r_16, (), rfl, trivial, by rw [ht]; exact hP9, hD9⟩, hS.F ht⟩) hS.2.2 dX11_count_128
        by_cases c_18 : what = 3
        · refine lv_tableIn (tgt := 129) hx hb dX11_count_79 (by rw [c_18]; decide) (by rw [c_18]; decide) (off := 50) (by rw [c_18]; rfl) (by decide) ?_
          refine lv_aload_n hx hb dX11_count_129 rfl (lv_at hl 0 rfl) ?_
          refine va_get (D := E.1) (ci := 11) (v := .ref tp) (C := RX11) (T := TX11) (N := 9) hx hb hts inX11 hown hK hP 0 rfl rfl 0 (by decide) fl10 (fun _ h9 => h9) rfl dX11_count_130 ?_
          refine va_get (D := E.1) (ci := 9) (v := .int (nI ln)) (C := RX9) (T := TX9) (N := 2) hx hb hts inX9 hown hK hP 9 rfl rfl 1 (by decide) fl73 (fun _ h9 => h9) rfl dX11_count_133 ?_
          have hP9 := hP.sub (ws' := [(h0, .inr (11, [.ref tp, .ref rd, .ref se, .ref ba, .ref of, .ref pl, .ref sr, .ref sc, .int wk])), (ba, .inl (E.2.1 4, 6, .inr (.inr (.inr (.inr fb))))), (bo_, .inr (0, [.ref sp, .ref pa, .int lt, .ref ru, .ref co, .ref tr])), (ru, .inr (7, [.ref t1, .ref t2, .ref t3, .ref t4, .int sq])), (co, .inr (1, [.ref bx, .int (nI bm_), .int lq, .int mq, .int lw])), (se, .inr (8, [.ref wi, .ref po])), (po, .inl (E.2.1 0, 10, .inl fo_)), (of, .inr (2, [.ref g1, .ref g2, .ref g3, .ref g4, .ref g5, .int (nI on), .ref g6, .ref g7, .ref g8])), (g6, .inl (E.2.1 0, 4, .inl d6)), (tp, .inr (9, [.ref by_, .int (nI ln)]))]) [0, 1, 2, 3, 4, 5, 6, 7, 8, 9] rfl
          have hD9 := hD.sub (ws' := [(h0, .inr (11, [.ref tp, .ref rd, .ref se, .ref ba, .ref of, .ref pl, .ref sr, .ref sc, .int wk])), (ba, .inl (E.2.1 4, 6, .inr (.inr (.inr (.inr fb))))), (bo_, .inr (0, [.ref sp, .ref pa, .int lt, .ref ru, .ref co, .ref tr])), (ru, .inr (7, [.ref t1, .ref t2, .ref t3, .ref t4, .int sq])), (co, .inr (1, [.ref bx, .int (nI bm_), .int lq, .int mq, .int lw])), (se, .inr (8, [.ref wi, .ref po])), (po, .inl (E.2.1 0, 10, .inl fo_)), (of, .inr (2, [.ref g1, .ref g2, .ref g3, .ref g4, .ref g5, .int (nI on), .ref g6, .ref g7, .ref g8])), (g6, .inl (E.2.1 0, 4, .inl d6)), (tp, .inr (9, [.ref by_, .int (nI ln)]))]) [0, 1, 2, 3, 4, 5, 6, 7, 8, 9] (by decide) rfl
          exact W.iret (v := (nI ln)) hx hb hr (fun t ht hW => ⟨⟨(nI ln), (), rfl, trivial, by rw [ht]; exact hP9, hD9⟩, hS.F ht⟩) hS.2.2 dX11_count_136
        refine lv_tableOut (tgt := 137) hx hb dX11_count_79 (by have g0 : ¬ what.toInt = 0 := fun h => c_13 (Int32.toInt_inj.mp (h.trans (by decide))); have g1 : ¬ what.toInt = 1 := fun h => c_14 (Int32.toInt_inj.mp (h.trans (by decide))); have g2 : ¬ what.toInt = 2 := fun h => c_15 (Int32.toInt_inj.mp (h.trans (by decide))); have g3 : ¬ what.toInt = 3 := fun h => c_18 (Int32.toInt_inj.mp (h.trans (by decide))); omega) (by decide) ?_
        refine lv_iconst (v := (-1)) hx hb dX11_count_137 (by decide) ?_
        have hP9 := hP.sub (ws' := [(h0, .inr (11, [.ref tp, .ref rd, .ref se, .ref ba, .ref of, .ref pl, .ref sr, .ref sc, .int wk])), (ba, .inl (E.2.1 4, 6, .inr (.inr (.inr (.inr fb))))), (bo_, .inr (0, [.ref sp, .ref pa, .int lt, .ref ru, .ref co, .ref tr])), (ru, .inr (7, [.ref t1, .ref t2, .ref t3, .ref t4, .int sq])), (co, .inr (1, [.ref bx, .int (nI bm_), .int lq, .int mq, .int lw])), (se, .inr (8, [.ref wi, .ref po])), (po, .inl (E.2.1 0, 10, .inl fo_)), (of, .inr (2, [.ref g1, .ref g2, .ref g3, .ref g4, .ref g5, .int (nI on), .ref g6, .ref g7, .ref g8])), (g6, .inl (E.2.1 0, 4, .inl d6)), (tp, .inr (9, [.ref by_, .int (nI ln)]))]) [0, 1, 2, 3, 4, 5, 6, 7, 8, 9] rfl
        have hD9 := hD.sub (ws' := [(h0, .inr (11, [.ref tp, .ref rd, .ref se, .ref ba, .ref of, .ref pl, .ref sr, .ref sc, .int wk])), (ba, .inl (E.2.1 4, 6, .inr (.inr (.inr (.inr fb))))), (bo_, .inr (0, [.ref sp, .ref pa, .int lt, .ref ru, .ref co, .ref tr])), (ru, .inr (7, [.ref t1, .ref t2, .ref t3, .ref t4, .int sq])), (co, .inr (1, [.ref bx, .int (nI bm_), .int lq, .int mq, .int lw])), (se, .inr (8, [.ref wi, .ref po])), (po, .inl (E.2.1 0, 10, .inl fo_)), (of, .inr (2, [.ref g1, .ref g2, .ref g3, .ref g4, .ref g5, .int (nI on), .ref g6, .ref g7, .ref g8])), (g6, .inl (E.2.1 0, 4, .inl d6)), (tp, .inr (9, [.ref by_, .int (nI ln)]))]) [0, 1, 2, 3, 4, 5, 6, 7, 8, 9] (by decide) rfl
        exact W.iret (v := (-1)) hx hb hr (fun t ht hW => ⟨⟨(-1), (), rfl, trivial, by rw [ht]; exact hP9, hD9⟩, hS.F ht⟩) hS.2.2 dX11_count_138
      · have b_19 : inR what 30 39 = true := bn hw_10 c_11
        refine lv_aload_n hx hb dX11_count_65 rfl (lv_at hl 0 rfl) ?_
        refine va_get (D := E.1) (ci := 11) (v := .ref se) (C := RX11) (T := TX11) (N := 9) hx hb hts inX11 hown hK hP 0 rfl rfl 2 (by decide) fl28 (fun _ h9 => h9) rfl dX11_count_66 ?_
        refine va_get (D := E.1) (ci := 8) (v := .ref po) (C := RX8) (T := TX8) (N := 2) hx hb hts inX8 hown hK hP 5 rfl rfl 1 (by decide) fl96 (fun _ h9 => h9) rfl dX11_count_69 ?_
        refine lv_iload_n hx hb dX11_count_72 rfl (lv_at hl 1 rfl) ?_
        refine lv_bipush (v := 30) hx hb dX11_count_73 (by decide) ?_
        refine lv_isub hx hb dX11_count_75 ?_
        refine lv_topi (fun x_20 ex_20 => ?_)
        have hs_21 : vp_in x_20 10 := by rw [ex_20]; exact (ixS b_19 (a := 30) rfl (b := 39) (by decide) (by decide) (by decide) (by decide)).1
        refine va_iald hx hb hK hP 6 0 rfl rfl hs_21 dX11_count_76 ?_
        refine lv_topi (fun x_22 ex_22 => ?_)
        have hP9 := hP.sub (ws' := [(h0, .inr (11, [.ref tp, .ref rd, .ref se, .ref ba, .ref of, .ref pl, .ref sr, .ref sc, .int wk])), (ba, .inl (E.2.1 4, 6, .inr (.inr (.inr (.inr fb))))), (bo_, .inr (0, [.ref sp, .ref pa, .int lt, .ref ru, .ref co, .ref tr])), (ru, .inr (7, [.ref t1, .ref t2, .ref t3, .ref t4, .int sq])), (co, .inr (1, [.ref bx, .int (nI bm_), .int lq, .int mq, .int lw])), (se, .inr (8, [.ref wi, .ref po])), (po, .inl (E.2.1 0, 10, .inl fo_)), (of, .inr (2, [.ref g1, .ref g2, .ref g3, .ref g4, .ref g5, .int (nI on), .ref g6, .ref g7, .ref g8])), (g6, .inl (E.2.1 0, 4, .inl d6)), (tp, .inr (9, [.ref by_, .int (nI ln)]))]) [0, 1, 2, 3, 4, 5, 6, 7, 8, 9] rfl
        have hD9 := hD.sub (ws' := [(h0, .inr (11, [.ref tp, .ref rd, .ref se, .ref ba, .ref of, .ref pl, .ref sr, .ref sc, .int wk])), (ba, .inl (E.2.1 4, 6, .inr (.inr (.inr (.inr fb))))), (bo_, .inr (0, [.ref sp, .ref pa, .int lt, .ref ru, .ref co, .ref tr])), (ru, .inr (7, [.ref t1, .ref t2, .ref t3, .ref t4, .int sq])), (co, .inr (1, [.ref bx, .int (nI bm_), .int lq, .int mq, .int lw])), (se, .inr (8, [.ref wi, .ref po])), (po, .inl (E.2.1 0, 10, .inl fo_)), (of, .inr (2, [.ref g1, .ref g2, .ref g3, .ref g4, .ref g5, .int (nI on), .ref g6, .ref g7, .ref g8])), (g6, .inl (E.2.1 0, 4, .inl d6)), (tp, .inr (9, [.ref by_, .int (nI ln)]))]) [0, 1, 2, 3, 4, 5, 6, 7, 8, 9] (by decide) rfl
        exact W.iret (v := x_22) hx hb hr (fun t ht hW => ⟨⟨x_22, (), rfl, trivial, by rw [ht]; exact hP9, hD9⟩, hS.F ht⟩) hS.2.2 dX11_count_77
    · have b_23 : inR what 20 25 = true := bn hw_6 c_7
      refine lv_aload_n hx hb dX11_count_38 rfl (lv_at hl 0 rfl) ?_
      refine va_get (D := E.1) (ci := 11) (v := .ref ba) (C := RX11) (T := TX11) (N := 9) hx hb hts inX11 hown hK hP 0 rfl rfl 3 (by decide) fl34 (fun _ h9 => h9) rfl dX11_count_39 ?_
      refine lv_iload_n hx hb dX11_count_42 rfl (lv_at hl 1 rfl) ?_
      refine lv_bipush (v := 20) hx hb dX11_count_43 (by decide) ?_
      refine lv_isub hx hb dX11_count_45 ?_
      refine lv_topi (fun x_24 ex_24 => ?_)
      have hs_25 : vp_in x_24 6 := by rw [ex_24]; exact (ixS b_23 (a := 20) rfl (b := 25) (by decide) (by decide) (by decide) (by decide)).1
      refine va_aldq hx hb hK hP 1 4 rfl rfl hs_25 dX11_count_46 ?_
      rw [show va_rf (fb x_24.toNatClampNeg) = .ref bo_ from by rw [(show fb (Int32.toNatClampNeg x_24) = some bo_ from by rw [ex_24]; exact hfb20 b_23)]; rfl]
      refine va_get (D := E.1) (ci := 0) (v := .ref co) (C := RX0) (T := TX0) (N := 6) hx hb hts inX0 hown hK hP 2 rfl rfl 4 (by decide) fl128 (fun _ h9 => h9) rfl dX11_count_47 ?_
      refine va_get (D := E.1) (ci := 1) (v := .int (nI bm_)) (C := RX1) (T := TX1) (N := 5) hx hb hts inX1 hown hK hP 4 rfl rfl 1 (by decide) fl230 (fun _ h9 => h9) rfl dX11_count_50 ?_
      have hP9 := hP.sub (ws' := [(h0, .inr (11, [.ref tp, .ref rd, .ref se, .ref ba, .ref of, .ref pl, .ref sr, .ref sc, .int wk])), (ba, .inl (E.2.1 4, 6, .inr (.inr (.inr (.inr fb))))), (bo_, .inr (0, [.ref sp, .ref pa, .int lt, .ref ru, .ref co, .ref tr])), (ru, .inr (7, [.ref t1, .ref t2, .ref t3, .ref t4, .int sq])), (co, .inr (1, [.ref bx, .int (nI bm_), .int lq, .int mq, .int lw])), (se, .inr (8, [.ref wi, .ref po])), (po, .inl (E.2.1 0, 10, .inl fo_)), (of, .inr (2, [.ref g1, .ref g2, .ref g3, .ref g4, .ref g5, .int (nI on), .ref g6, .ref g7, .ref g8])), (g6, .inl (E.2.1 0, 4, .inl d6)), (tp, .inr (9, [.ref by_, .int (nI ln)]))]) [0, 1, 2, 3, 4, 5, 6, 7, 8, 9] rfl
      have hD9 := hD.sub (ws' := [(h0, .inr (11, [.ref tp, .ref rd, .ref se, .ref ba, .ref of, .ref pl, .ref sr, .ref sc, .int wk])), (ba, .inl (E.2.1 4, 6, .inr (.inr (.inr (.inr fb))))), (bo_, .inr (0, [.ref sp, .ref pa, .int lt, .ref ru, .ref co, .ref tr])), (ru, .inr (7, [.ref t1, .ref t2, .ref t3, .ref t4, .int sq])), (co, .inr (1, [.ref bx, .int (nI bm_), .int lq, .int mq, .int lw])), (se, .inr (8, [.ref wi, .ref po])), (po, .inl (E.2.1 0, 10, .inl fo_)), (of, .inr (2, [.ref g1, .ref g2, .ref g3, .ref g4, .ref g5, .int (nI on), .ref g6, .ref g7, .ref g8])), (g6, .inl (E.2.1 0, 4, .inl d6)), (tp, .inr (9, [.ref by_, .int (nI ln)]))]) [0, 1, 2, 3, 4, 5, 6, 7, 8, 9] (by decide) rfl
      exact W.iret (v := (nI bm_)) hx hb hr (fun t ht hW => ⟨⟨(nI bm_), (), rfl, trivial, by rw [ht]; exact hP9, hD9⟩, hS.F ht⟩) hS.2.2 dX11_count_53
  · have b_26 : inR what 10 15 = true := bn hw_2 c_3
    refine lv_aload_n hx hb dX11_count_11 rfl (lv_at hl 0 rfl) ?_
    refine va_get (D := E.1) (ci := 11) (v := .ref ba) (C := RX11) (T := TX11) (N := 9) hx hb hts inX11 hown hK hP 0 rfl rfl 3 (by decide) fl34 (fun _ h9 => h9) rfl dX11_count_12 ?_
    refine lv_iload_n hx hb dX11_count_15 rfl (lv_at hl 1 rfl) ?_
    refine lv_bipush (v := 10) hx hb dX11_count_16 (by decide) ?_
    refine lv_isub hx hb dX11_count_18 ?_
    refine lv_topi (fun x_27 ex_27 => ?_)
    have hs_28 : vp_in x_27 6 := by rw [ex_27]; exact (ixS b_26 (a := 10) rfl (b := 15) (by decide) (by decide) (by decide) (by decide)).1
    refine va_aldq hx hb hK hP 1 4 rfl rfl hs_28 dX11_count_19 ?_
    rw [show va_rf (fb x_27.toNatClampNeg) = .ref bo_ from by rw [(show fb (Int32.toNatClampNeg x_27) = some bo_ from by rw [ex_27]; exact hfb10 b_26)]; rfl]
    refine va_get (D := E.1) (ci := 0) (v := .ref ru) (C := RX0) (T := TX0) (N := 6) hx hb hts inX0 hown hK hP 2 rfl rfl 3 (by decide) fl118 (fun _ h9 => h9) rfl dX11_count_20 ?_
    refine va_get (D := E.1) (ci := 7) (v := .int sq) (C := RX7) (T := TX7) (N := 5) hx hb hts inX7 hown hK hP 3 rfl rfl 4 (by decide) fl121 (fun _ h9 => h9) rfl dX11_count_23 ?_
    have hP9 := hP.sub (ws' := [(h0, .inr (11, [.ref tp, .ref rd, .ref se, .ref ba, .ref of, .ref pl, .ref sr, .ref sc, .int wk])), (ba, .inl (E.2.1 4, 6, .inr (.inr (.inr (.inr fb))))), (bo_, .inr (0, [.ref sp, .ref pa, .int lt, .ref ru, .ref co, .ref tr])), (ru, .inr (7, [.ref t1, .ref t2, .ref t3, .ref t4, .int sq])), (co, .inr (1, [.ref bx, .int (nI bm_), .int lq, .int mq, .int lw])), (se, .inr (8, [.ref wi, .ref po])), (po, .inl (E.2.1 0, 10, .inl fo_)), (of, .inr (2, [.ref g1, .ref g2, .ref g3, .ref g4, .ref g5, .int (nI on), .ref g6, .ref g7, .ref g8])), (g6, .inl (E.2.1 0, 4, .inl d6)), (tp, .inr (9, [.ref by_, .int (nI ln)]))]) [0, 1, 2, 3, 4, 5, 6, 7, 8, 9] rfl
    have hD9 := hD.sub (ws' := [(h0, .inr (11, [.ref tp, .ref rd, .ref se, .ref ba, .ref of, .ref pl, .ref sr, .ref sc, .int wk])), (ba, .inl (E.2.1 4, 6, .inr (.inr (.inr (.inr fb))))), (bo_, .inr (0, [.ref sp, .ref pa, .int lt, .ref ru, .ref co, .ref tr])), (ru, .inr (7, [.ref t1, .ref t2, .ref t3, .ref t4, .int sq])), (co, .inr (1, [.ref bx, .int (nI bm_), .int lq, .int mq, .int lw])), (se, .inr (8, [.ref wi, .ref po])), (po, .inl (E.2.1 0, 10, .inl fo_)), (of, .inr (2, [.ref g1, .ref g2, .ref g3, .ref g4, .ref g5, .int (nI on), .ref g6, .ref g7, .ref g8])), (g6, .inl (E.2.1 0, 4, .inl d6)), (tp, .inr (9, [.ref by_, .int (nI ln)]))]) [0, 1, 2, 3, 4, 5, 6, 7, 8, 9] (by decide) rfl
    exact W.iret (v := sq) hx hb hr (fun t ht hW => ⟨⟨sq, (), rfl, trivial, by rw [ht]; exact hP9, hD9⟩, hS.F ht⟩) hS.2.2 dX11_count_26
