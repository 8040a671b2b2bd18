set_option maxHeartbeats 4000000 in
set_option maxRecDepth 100000 in
theorem c_X11_deliver (l : Launch) (E : vE) (h0 : Nat) (tp : Nat) (rd : Nat) (se : Nat) (ba : Nat) (of : Nat) (pl : Nat) (sr : Nat) (sc : Nat) (wk : Int32) (k1 : Nat) (k2 : Nat) (k3 : Nat) (k4 : Nat) (md : Int32) (dn : Int32) (fsu : Int32) (g1 : Nat) (g2 : Nat) (g3 : Nat) (g4 : Nat) (g5 : Nat) (g6 : Nat) (g7 : Nat) (g8 : Nat) (on : Nat) (d1 : Nat → Int32) (d2 : Nat → Int32) (d3 : Nat → Int32) (d4 : Nat → Int32) (d5 : Nat → Int32) (fr : Int32) (to_ : Int32) (le : Int32) (fi : Int32) (la : Int32) (sz : Nat) (hon : on ≤ 7) (hd1 : ∀ k, k < 7 → inR (d1 k) 0 9 = true) : Met l yX11_deliver wsX11_deliver ({ frames := 2, cells := 0, slots := 0, locals := 46 }) (pcW E [.ref h0, .int fr, .int to_, .int le, .int fi, .int la] sz [(h0, .inr (11, [.ref tp, .ref rd, .ref se, .ref ba, .ref of, .ref pl, .ref sr, .ref sc, .int wk])), (pl, .inr (5, [.ref of, .ref k1, .ref k2, .ref k3, .ref k4, .int md, .int dn, .int fsu])), (of, .inr (2, [.ref g1, .ref g2, .ref g3, .ref g4, .ref g5, .int (nI on), .ref g6, .ref g7, .ref g8])), (g1, .inl (E.2.1 0, 7, .inl d1)), (g2, .inl (E.2.1 0, 7, .inl d2)), (g3, .inl (E.2.1 0, 7, .inl d3)), (g4, .inl (E.2.1 0, 7, .inl d4)), (g5, .inl (E.2.1 0, 7, .inl d5))]) (va_Qi (fun (r : Int32) (u : Int32 × Nat × (Nat → Int32) × (Nat → Int32) × (Nat → Int32) × (Nat → Int32) × (Nat → Int32)) => match u with | (md2, on2, d12, d22, d32, d42, d52) => ((inR fr 0 9 && inR to_ 0 9 && inR le 1 200 && inR fi 0 999 && inR la fi 999) = true ∧ on < 7 ∧ r = nI on ∧ on2 = on + 1) ∨ ((inR fr 0 9 && inR to_ 0 9 && inR le 1 200 && inR fi 0 999 && inR la fi 999) = true ∧ on = 7 ∧ r = -3 ∧ on2 = on) ∨ ((inR fr 0 9 && inR to_ 0 9 && inR le 1 200 && inR fi 0 999 && inR la fi 999) = false ∧ r = -2 ∧ on2 = on)) (fun (u : Int32 × Nat × (Nat → Int32) × (Nat → Int32) × (Nat → Int32) × (Nat → Int32) × (Nat → Int32)) (t : State) => match u with | (md2, on2, d12, d22, d32, d42, d52) => (on2 ≤ 7) ∧ (∀ k, k < 7 → inR (d12 k) 0 9 = true) ∧ wB E (va_A [(h0, .inr (11, [.ref tp, .ref rd, .ref se, .ref ba, .ref of, .ref pl, .ref sr, .ref sc, .int wk])), (pl, .inr (5, [.ref of, .ref k1, .ref k2, .ref k3, .ref k4, .int md, .int dn, .int fsu])), (of, .inr (2, [.ref g1, .ref g2, .ref g3, .ref g4, .ref g5, .int (nI on), .ref g6, .ref g7, .ref g8])), (g1, .inl (E.2.1 0, 7, .inl d1)), (g2, .inl (E.2.1 0, 7, .inl d2)), (g3, .inl (E.2.1 0, 7, .inl d3)), (g4, .inl (E.2.1 0, 7, .inl d4)), (g5, .inl (E.2.1 0, 7, .inl d5))] sz) [(h0, .inr (11, [.ref tp, .ref rd, .ref se, .ref ba, .ref of, .ref pl, .ref sr, .ref sc, .int wk])), (pl, .inr (5, [.ref of, .ref k1, .ref k2, .ref k3, .ref k4, .int md2, .int dn, .int fsu])), (of, .inr (2, [.ref g1, .ref g2, .ref g3, .ref g4, .ref g5, .int (nI on2), .ref g6, .ref g7, .ref g8])), (g1, .inl (E.2.1 0, 7, .inl d12)), (g2, .inl (E.2.1 0, 7, .inl d22)), (g3, .inl (E.2.1 0, 7, .inl d32)), (g4, .inl (E.2.1 0, 7, .inl d42)), (g5, .inl (E.2.1 0, 7, .inl d52))] t) (va_A [(h0, .inr (11, [.ref tp, .ref rd, .ref se, .ref ba, .ref of, .ref pl, .ref sr, .ref sc, .int wk])), (pl, .inr (5, [.ref of, .ref k1, .ref k2, .ref k3, .ref k4, .int md, .int dn, .int fsu])), (of, .inr (2, [.ref g1, .ref g2, .ref g3, .ref g4, .ref g5, .int (nI on), .ref g6, .ref g7, .ref g8])), (g1, .inl (E.2.1 0, 7, .inl d1)), (g2, .inl (E.2.1 0, 7, .inl d2)), (g3, .inl (E.2.1 0, 7, .inl d3)), (g4, .inl (E.2.1 0, 7, .inl d4)), (g5, .inl (E.2.1 0, 7, .inl d5))] sz)) 0 0 (va_A [(h0, .inr (11, [.ref tp, .ref rd, .ref se, .ref ba, .ref of, .ref pl, .ref sr, .ref sc, .int wk])), (pl, .inr (5, [.ref of, .ref k1, .ref k2, .ref k3, .ref k4, .int md, .int dn, .int fsu])), (of, .inr (2, [.ref g1, .ref g2, .ref g3, .ref g4, .ref g5, .int (nI on), .ref g6, .ref g7, .ref g8])), (g1, .inl (E.2.1 0, 7, .inl d1)), (g2, .inl (E.2.1 0, 7, .inl d2)), (g3, .inl (E.2.1 0, 7, .inl d3)), (g4, .inl (E.2.1 0, 7, .inl d4)), (g5, .inl (E.2.1 0, 7, .inl d5))] sz) := by
  refine Met.ofW (cc := cX11_deliver) (maxL := 6) (ret := (some .int)) (by decide) rfl ?_
  intro p e s m args below meth c s₁ B hml hv
  obtain ⟨rfl, hsz, hP, hkn, hD0, hst⟩ := hv
  have hx := B.exec
  have hb := B.bytes
  have hr := B.returns
  have hts := atoms_spec (ws := wsX11_deliver) B.pre
  have hown : s.vm.findClass RX11 = some m.cls := findClass_of_methodNamed B.named
  have hlocks := B.notSynchronized
  subst hsz
  have hD := hD0.self (sz := s.heap.size)
  have hK := hkn.1
  have hAO := hkn.2.2.1
  generalize hAe : va_A [(h0, .inr (11, [.ref tp, .ref rd, .ref se, .ref ba, .ref of, .ref pl, .ref sr, .ref sc, .int wk])), (pl, .inr (5, [.ref of, .ref k1, .ref k2, .ref k3, .ref k4, .int md, .int dn, .int fsu])), (of, .inr (2, [.ref g1, .ref g2, .ref g3, .ref g4, .ref g5, .int (nI on), .ref g6, .ref g7, .ref g8])), (g1, .inl (E.2.1 0, 7, .inl d1)), (g2, .inl (E.2.1 0, 7, .inl d2)), (g3, .inl (E.2.1 0, 7, .inl d3)), (g4, .inl (E.2.1 0, 7, .inl d4)), (g5, .inl (E.2.1 0, 7, .inl d5))] s.heap.size = A at hD hst ⊢
  have hA : ∀ q : Nat, s.heap.size ≤ q → A q := fun q h => by rw [← hAe]; exact Or.inr h
  have hS : va_S A s.heap s.heap [] := va_S.rf
  have hP : va_P E.1 vwCl [(h0, .inr (11, [.ref tp, .ref rd, .ref se, .ref ba, .ref of, .ref pl, .ref sr, .ref sc, .int wk])), (pl, .inr (5, [.ref of, .ref k1, .ref k2, .ref k3, .ref k4, .int md, .int dn, .int fsu])), (of, .inr (2, [.ref g1, .ref g2, .ref g3, .ref g4, .ref g5, .int (nI on), .ref g6, .ref g7, .ref g8])), (g1, .inl (E.2.1 0, 7, .inl d1)), (g2, .inl (E.2.1 0, 7, .inl d2)), (g3, .inl (E.2.1 0, 7, .inl d3)), (g4, .inl (E.2.1 0, 7, .inl d4)), (g5, .inl (E.2.1 0, 7, .inl d5))] s.heap := hP
  have hl := lv_entry ([.ref h0, .int fr, .int to_, .int le, .int fi, .int la]) (n := 6) (Nat.le_of_ble_eq_true rfl)
  rw [lg_entry_eq]
  generalize (lg_sl ([.ref h0, .int fr, .int to_, .int le, .int fi, .int la]) ++ List.replicate (6 - (lg_sl ([.ref h0, .int fr, .int to_, .int le, .int fi, .int la])).length) Slot.unset).toArray = ls at hl ⊢
  have hl : lv_has ls 6 [(0, .ref h0), (1, .int fr), (2, .int to_), (3, .int le), (4, .int fi), (5, .int la)] := hl
  have fl42 := hts (.fieldLink RX11 42 "BoatsHome" "offers" "LBoatsHome$Offers;") (by first | exact List.mem_of_getElem? (i := 1) rfl | decide +kernel)
  have fl51 := hts (.fieldLink RX11 51 "BoatsHome" "latestPlan" "LBoatsHome$Plan;") (by first | exact List.mem_of_getElem? (i := 3) rfl | decide +kernel)
  have fl197 := hts (.fieldLink RX11 197 "BoatsHome$Offers" "size" "I") (by first | exact List.mem_of_getElem? (i := 2) rfl | decide +kernel)
  have fl198 := hts (.fieldLink RX11 198 "BoatsHome$Plan" "made" "Z") (by first | exact List.mem_of_getElem? (i := 4) rfl | decide +kernel)
  have inX11 : ∀ w ∈ u_ws RX11 TX11 9, w ∈ wsX11_deliver := by first | exact fun w h9 => (List.mem_cons_of_mem _ (List.mem_append_left _ (List.mem_append_left _ (List.mem_append_right _ h9)))) | decide +kernel
  have inX2 : ∀ w ∈ u_ws RX2 TX2 9, w ∈ wsX11_deliver := by first | exact fun w h9 => (List.mem_cons_of_mem _ (List.mem_append_left _ (List.mem_append_right _ h9))) | decide +kernel
  have inX5 : ∀ w ∈ u_ws RX5 TX5 8, w ∈ wsX11_deliver := by first | exact fun w h9 => (List.mem_cons_of_mem _ (List.mem_append_right _ h9)) | decide +kernel
  refine lv_iload_n hx hb dX11_deliver_0 rfl (lv_at hl 1 rfl) ?_
  refine lv_bipush (v := 10) hx hb dX11_deliver_1 (by decide) ?_
  have hPc := hP.sub (ws' := []) [] rfl
  have hDc := hD.sub (ws' := []) [] (by decide) rfl
  have hFc := va_free (wc := []) hD hS hA [] rfl
  refine va_calli (va_runS (As := [.int fr, .int 10]) (rest := []) ⟨hx, hb, hml, hown, hts⟩ (c_X11_below l E fr 10 9 s.heap.size (lt_le (by decide))) (va_cwS 2 hts gX11_deliver_X11_below rfl rfl rfl hdS_X11_below ⟨Nat.le_of_ble_eq_true rfl, Nat.le_of_ble_eq_true rfl⟩) ⟨pcW_blind, (pcW_pre hPc hkn hDc hst hS hFc)⟩ rfl rfl hl.1 rfl (lv_room (Nat.le_of_ble_eq_true rfl)) dX11_deliver_3 ⟨Nat.le_of_ble_eq_true rfl, Nat.le_of_ble_eq_true rfl⟩) hS (fun q _ h => hFc q h) hFc (fun r_1 u t H1 locs ht hvm hw_2 hB hz1 hk1 hS => ?_)
  obtain ⟨hP1, hD1⟩ := hB
  rw [ht] at hP1
  try dsimp only at hw_2
  obtain ⟨hP, hD⟩ := va_join (wr := [(h0, .inr (11, [.ref tp, .ref rd, .ref se, .ref ba, .ref of, .ref pl, .ref sr, .ref sc, .int wk])), (pl, .inr (5, [.ref of, .ref k1, .ref k2, .ref k3, .ref k4, .int md, .int dn, .int fsu])), (of, .inr (2, [.ref g1, .ref g2, .ref g3, .ref g4, .ref g5, .int (nI on), .ref g6, .ref g7, .ref g8])), (g1, .inl (E.2.1 0, 7, .inl d1)), (g2, .inl (E.2.1 0, 7, .inl d2)), (g3, .inl (E.2.1 0, 7, .inl d3)), (g4, .inl (E.2.1 0, 7, .inl d4)), (g5, .inl (E.2.1 0, 7, .inl d5))]) (w1 := []) hP hD [] [0, 1, 2, 3, 4, 5, 6, 7] rfl rfl (by decide) (by decide) hk1 hFc hP1 hD1
  generalize H1 = H at hP hS ⊢
  have hP : va_P E.1 vwCl [(h0, .inr (11, [.ref tp, .ref rd, .ref se, .ref ba, .ref of, .ref pl, .ref sr, .ref sc, .int wk])), (pl, .inr (5, [.ref of, .ref k1, .ref k2, .ref k3, .ref k4, .int md, .int dn, .int fsu])), (of, .inr (2, [.ref g1, .ref g2, .ref g3, .ref g4, .ref g5, .int (nI on), .ref g6, .ref g7, .ref g8])), (g1, .inl (E.2.1 0, 7, .inl d1)), (g2, .inl (E.2.1 0, 7, .inl d2)), (g3, .inl (E.2.1 0, 7, .inl d3)), (g4, .inl (E.2.1 0, 7, .inl d4)), (g5, .inl (E.2.1 0, 7, .inl d5))] H := hP
  have hD : va_D A [(h0, .inr (11, [.ref tp, .ref rd, .ref se, .ref ba, .ref of, .ref pl, .ref sr, .ref sc, .int wk])), (pl, .inr (5, [.ref of, .ref k1, .ref k2, .ref k3, .ref k4, .int md, .int dn, .int fsu])), (of, .inr (2, [.ref g1, .ref g2, .ref g3, .ref g4, .ref g5, .int (nI on), .ref g6, .ref g7, .ref g8])), (g1, .inl (E.2.1 0, 7, .inl d1)), (g2, .inl (E.2.1 0, 7, .inl d2)), (g3, .inl (E.2.1 0, 7, .inl d3)), (g4, .inl (E.2.1 0, 7, .inl d4)), (g5, .inl (E.2.1 0, 7, .inl d5))] := hD
  refine lv_if_eq (tgt := 54) hx hb dX11_deliver_6 (by decide) (fun c_3 => ?_) (fun c_3 => ?_)
  · have b_4 : inR fr 0 9 = false := bz hw_2 c_3
    refine lv_bipush (v := (-2)) hx hb dX11_deliver_54 (by decide) ?_
    have hP9 := hP.sub (ws' := [(h0, .inr (11, [.ref tp, .ref rd, .ref se, .ref ba, .ref of, .ref pl, .ref sr, .ref sc, .int wk])), (pl, .inr (5, [.ref of, .ref k1, .ref k2, .ref k3, .ref k4, .int md, .int dn, .int fsu])), (of, .inr (2, [.ref g1, .ref g2, .ref g3, .ref g4, .ref g5, .int (nI on), .ref g6, .ref g7, .ref g8])), (g1, .inl (E.2.1 0, 7, .inl d1)), (g2, .inl (E.2.1 0, 7, .inl d2)), (g3, .inl (E.2.1 0, 7, .inl d3)), (g4, .inl (E.2.1 0, 7, .inl d4)), (g5, .inl (E.2.1 0, 7, .inl d5))]) [0, 1, 2, 3, 4, 5, 6, 7] rfl
    have hD9 := hD.sub (ws' := [(h0, .inr (11, [.ref tp, .ref rd, .ref se, .ref ba, .ref of, .ref pl, .ref sr, .ref sc, .int wk])), (pl, .inr (5, [.ref of, .ref k1, .ref k2, .ref k3, .ref k4, .int md, .int dn, .int fsu])), (of, .inr (2, [.ref g1, .ref g2, .ref g3, .ref g4, .ref g5, .int (nI on), .ref g6, .ref g7, .ref g8])), (g1, .inl (E.2.1 0, 7, .inl d1)), (g2, .inl (E.2.1 0, 7, .inl d2)), (g3, .inl (E.2.1 0, 7, .inl d3)), (g4, .inl (E.2.1 0, 7, .inl d4)), (g5, .inl (E.2.1 0, 7, .inl d5))]) [0, 1, 2, 3, 4, 5, 6, 7] (by decide) rfl
    exact W.iret (v := (-2)) hx hb hr (fun t ht hW => ⟨⟨(-2), (md, on, d1, d2, d3, d4, d5), rfl, Or.inr (Or.inr ⟨(by first | (rw [b_4]; done) | (rw [b_4]; rfl)), rfl, rfl⟩), (by omega), hd1, by rw [ht]; exact hP9, hD9⟩, hS.F ht⟩) hS.2.2 dX11_deliver_56
  · have b_5 : inR fr 0 9 = true := bn hw_2 c_3
    refine lv_iload_n hx hb dX11_deliver_9 rfl (lv_at hl 2 rfl) ?_
    refine lv_bipush (v := 10) hx hb dX11_deliver_10 (by decide) ?_
    have hPc := hP.sub (ws' := []) [] rfl
    have hDc := hD.sub (ws' := []) [] (by decide) rfl
    have hFc := va_free (wc := []) hD hS hA [] rfl
    refine va_calli (va_runS (As := [.int to_, .int 10]) (rest := []) ⟨hx, hb, hml, hown, hts⟩ (c_X11_below l E to_ 10 9 H.size (lt_le (by decide))) (va_cwS 2 hts gX11_deliver_X11_below rfl rfl rfl hdS_X11_below ⟨Nat.le_of_ble_eq_true rfl, Nat.le_of_ble_eq_true rfl⟩) ⟨pcW_blind, (pcW_pre hPc hkn hDc hst hS hFc)⟩ rfl rfl hl.1 rfl (lv_room (Nat.le_of_ble_eq_true rfl)) dX11_deliver_12 ⟨Nat.le_of_ble_eq_true rfl, Nat.le_of_ble_eq_true rfl⟩) hS (fun q _ h => hFc q h) hFc (fun r_6 u t H1 locs ht hvm hw_7 hB hz1 hk1 hS => ?_)
    obtain ⟨hP1, hD1⟩ := hB
    rw [ht] at hP1
    try dsimp only at hw_7
    obtain ⟨hP, hD⟩ := va_join (wr := [(h0, .inr (11, [.ref tp, .ref rd, .ref se, .ref ba, .ref of, .ref pl, .ref sr, .ref sc, .int wk])), (pl, .inr (5, [.ref of, .ref k1, .ref k2, .ref k3, .ref k4, .int md, .int dn, .int fsu])), (of, .inr (2, [.ref g1, .ref g2, .ref g3, .ref g4, .ref g5, .int (nI on), .ref g6, .ref g7, .ref g8])), (g1, .inl (E.2.1 0, 7, .inl d1)), (g2, .inl (E.2.1 0, 7, .inl d2)), (g3, .inl (E.2.1 0, 7, .inl d3)), (g4, .inl (E.2.1 0, 7, .inl d4)), (g5, .inl (E.2.1 0, 7, .inl d5))]) (w1 := []) hP hD [] [0, 1, 2, 3, 4, 5, 6, 7] rfl rfl (by decide) (by decide) hk1 hFc hP1 hD1
    generalize H1 = H at hP hS ⊢
    have hP : va_P E.1 vwCl [(h0, .inr (11, [.ref tp, .ref rd, .ref se, .ref ba, .ref of, .ref pl, .ref sr, .ref sc, .int wk])), (pl, .inr (5, [.ref of, .ref k1, .ref k2, .ref k3, .ref k4, .int md, .int dn, .int fsu])), (of, .inr (2, [.ref g1, .ref g2, .ref g3, .ref g4, .ref g5, .int (nI on), .ref g6, .ref g7, .ref g8])), (g1, .inl (E.2.1 0, 7, .inl d1)), (g2, .inl (E.2.1 0, 7, .inl d2)), (g3, .inl (E.2.1 0, 7, .inl d3)), (g4, .inl (E.2.1 0, 7, .inl d4)), (g5, .inl (E.2.1 0, 7, .inl d5))] H := hP
    have hD : va_D A [(h0, .inr (11, [.ref tp, .ref rd, .ref se, .ref ba, .ref of, .ref pl, .ref sr, .ref sc, .int wk])), (pl, .inr (5, [.ref of, .ref k1, .ref k2, .ref k3, .ref k4, .int md, .int dn, .int fsu])), (of, .inr (2, [.ref g1, .ref g2, .ref g3, .ref g4, .ref g5, .int (nI on), .ref g6, .ref g7, .ref g8])), (g1, .inl (E.2.1 0, 7, .inl d1)), (g2, .inl (E.2.1 0, 7, .inl d2)), (g3, .inl (E.2.1 0, 7, .inl d3)), (g4, .inl (E.2.1 0, 7, .inl d4)), (g5, .inl (E.2.1 0, 7, .inl d5))] := hD
    refine lv_if_eq (tgt := 54) hx hb dX11_deliver_15 (by decide) (fun c_8 => ?_) (fun c_8 => ?_)
    · have b_9 : inR to_ 0 9 = false := bz hw_7 c_8
      refine lv_bipush (v := (-2)) hx hb dX11_deliver_54 (by decide) ?_
      have hP9 := hP.sub (ws' := [(h0, .inr (11, [.ref tp, .ref rd, .ref se, .ref ba, .ref of, .ref pl, .ref sr, .ref sc, .int wk])), (pl, .inr (5, [.ref of, .ref k1, .ref k2, .ref k3, .ref k4, .int md, .int dn, .int fsu])), (of, .inr (2, [.ref g1, .ref g2, .ref g3, .ref g4, .ref g5, .int (nI on), .ref g6, .ref g7, .ref g8])), (g1, .inl (E.2.1 0, 7, .inl d1)), (g2, .inl (E.2.1 0, 7, .inl d2)), (g3, .inl (E.2.1 0, 7, .inl d3)), (g4, .inl (E.2.1 0, 7, .inl d4)), (g5, .inl (E.2.1 0, 7, .inl d5))]) [0, 1, 2, 3, 4, 5, 6, 7] rfl
      have hD9 := hD.sub (ws' := [(h0, .inr (11, [.ref tp, .ref rd, .ref se, .ref ba, .ref of, .ref pl, .ref sr, .ref sc, .int wk])), (pl, .inr (5, [.ref of, .ref k1, .ref k2, .ref k3, .ref k4, .int md, .int dn, .int fsu])), (of, .inr (2, [.ref g1, .ref g2, .ref g3, .ref g4, .ref g5, .int (nI on), .ref g6, .ref g7, .ref g8])), (g1, .inl (E.2.1 0, 7, .inl d1)), (g2, .inl (E.2.1 0, 7, .inl d2)), (g3, .inl (E.2.1 0, 7, .inl d3)), (g4, .inl (E.2.1 0, 7, .inl d4)), (g5, .inl (E.2.1 0, 7, .inl d5))]) [0, 1, 2, 3, 4, 5, 6, 7] (by decide) rfl
      exact W.iret (v := (-2)) hx hb hr (fun t ht hW => ⟨⟨(-2), (md, on, d1, d2, d3, d4, d5), rfl, Or.inr (Or.inr ⟨(by first | (rw [b_5, b_9]; done) | (rw [b_5, b_9]; rfl)), rfl, rfl⟩), (by omega), hd1, by rw [ht]; exact hP9, hD9⟩, hS.F ht⟩) hS.2.2 dX11_deliver_56
    · have b_10 : inR to_ 0 9 = true := bn hw_7 c_8
      refine lv_iload_n hx hb dX11_deliver_18 rfl (lv_at hl 3 rfl) ?_
      refine lv_iconst (v := 1) hx hb dX11_deliver_19 (by decide) ?_
      refine lv_sipush (v := 200) hx hb dX11_deliver_20 (by decide) ?_
      have hPc := hP.sub (ws' := []) [] rfl
      have hDc := hD.sub (ws' := []) [] (by decide) rfl
      have hFc := va_free (wc := []) hD hS hA [] rfl
      refine va_calli (va_runS (As := [.int le, .int 1, .int 200]) (rest := []) ⟨hx, hb, hml, hown, hts⟩ (c_X11_within l E le 1 200 H.size ) (va_cwS 3 hts gX11_deliver_X11_within rfl rfl rfl hdS_X11_within ⟨Nat.le_of_ble_eq_true rfl, Nat.le_of_ble_eq_true rfl⟩) ⟨pcW_blind, (pcW_pre hPc hkn hDc hst hS hFc)⟩ rfl rfl hl.1 rfl (lv_room (Nat.le_of_ble_eq_true rfl)) dX11_deliver_23 ⟨Nat.le_of_ble_eq_true rfl, Nat.le_of_ble_eq_true rfl⟩) hS (fun q _ h => hFc q h) hFc (fun r_11 u t H1 locs ht hvm hw_12 hB hz1 hk1 hS => ?_)
      obtain ⟨hP1, hD1⟩ := hB
      rw [ht] at hP1
      try dsimp only at hw_12
      obtain ⟨hP, hD⟩ := va_join (wr := [(h0, .inr (11, [.ref tp, .ref rd, .ref se, .ref ba, .ref of, .ref pl, .ref sr, .ref sc, .int wk])), (pl, .inr (5, [.ref of, .ref k1, .ref k2, .ref k3, .ref k4, .int md, .int dn, .int fsu])), (of, .inr (2, [.ref g1, .ref g2, .ref g3, .ref g4, .ref g5, .int (nI on), .ref g6, .ref g7, .ref g8])), (g1, .inl (E.2.1 0, 7, .inl d1)), (g2, .inl (E.2.1 0, 7, .inl d2)), (g3, .inl (E.2.1 0, 7, .inl d3)), (g4, .inl (E.2.1 0, 7, .inl d4)), (g5, .inl (E.2.1 0, 7, .inl d5))]) (w1 := []) hP hD [] [0, 1, 2, 3, 4, 5, 6, 7] rfl rfl (by decide) (by decide) hk1 hFc hP1 hD1
      generalize H1 = H at hP hS ⊢
      have hP : va_P E.1 vwCl [(h0, .inr (11, [.ref tp, .ref rd, .ref se, .ref ba, .ref of, .ref pl, .ref sr, .ref sc, .int wk])), (pl, .inr (5, [.ref of, .ref k1, .ref k2, .ref k3, .ref k4, .int md, .int dn, .int fsu])), (of, .inr (2, [.ref g1, .ref g2, .ref g3, .ref g4, .ref g5, .int (nI on), .ref g6, .ref g7, .ref g8])), (g1, .inl (E.2.1 0, 7, .inl d1)), (g2, .inl (E.2.1 0, 7, .inl d2)), (g3, .inl (E.2.1 0, 7, .inl d3)), (g4, .inl (E.2.1 0, 7, .inl d4)), (g5, .inl (E.2.1 0, 7, .inl d5))] H := hP
      have hD : va_D A [(h0, .inr (11, [.ref tp, .ref rd, .ref se, .ref ba, .ref of, .ref pl, .ref sr, .ref sc, .int wk])), (pl, .inr (5, [.ref of, .ref k1, .ref k2, .ref k3, .ref k4, .int md, .int dn, .int fsu])), (of, .inr (2, [.ref g1, .ref g2, .ref g3, .ref g4, .ref g5, .int (nI on), .ref g6, .ref g7, .ref g8])), (g1, .inl (E.2.1 0, 7, .inl d1)), (g2, .inl (E.2.1 0, 7, .inl d2)), (g3, .inl (E.2.1 0, 7, .inl d3)), (g4, .inl (E.2.1 0, 7, .inl d4)), (g5, .inl (E.2.1 0, 7, .inl d5))] := hD
      refine lv_if_eq (tgt := 54) hx hb dX11_deliver_26 (by decide) (fun c_13 => ?_) (fun c_13 => ?_)
      · have b_14 : inR le 1 200 = false := bz hw_12 c_13
        refine lv_bipush (v := (-2)) hx hb dX11_deliver_54 (by decide) ?_
        have hP9 := hP.sub (ws' := [(h0, .inr (11, [.ref tp, .ref rd, .ref se, .ref ba, .ref of, .ref pl, .ref sr, .ref sc, .int wk])), (pl, .inr (5, [.ref of, .ref k1, .ref k2, .ref k3, .ref k4, .int md, .int dn, .int fsu])), (of, .inr (2, [.ref g1, .ref g2, .ref g3, .ref g4, .ref g5, .int (nI on), .ref g6, .ref g7, .ref g8])), (g1, .inl (E.2.1 0, 7, .inl d1)), (g2, .inl (E.2.1 0, 7, .inl d2)), (g3, .inl (E.2.1 0, 7, .inl d3)), (g4, .inl (E.2.1 0, 7, .inl d4)), (g5, .inl (E.2.1 0, 7, .inl d5))]) [0, 1, 2, 3, 4, 5, 6, 7] rfl
        have hD9 := hD.sub (ws' := [(h0, .inr (11, [.ref tp, .ref rd, .ref se, .ref ba, .ref of, .ref pl, .ref sr, .ref sc, .int wk])), (pl, .inr (5, [.ref of, .ref k1, .ref k2, .ref k3, .ref k4, .int md, .int dn, .int fsu])), (of, .inr (2, [.ref g1, .ref g2, .ref g3, .ref g4, .ref g5, .int (nI on), .ref g6, .ref g7, .ref g8])), (g1, .inl (E.2.1 0, 7, .inl d1)), (g2, .inl (E.2.1 0, 7, .inl d2)), (g3, .inl (E.2.1 0, 7, .inl d3)), (g4, .inl (E.2.1 0, 7, .inl d4)), (g5, .inl (E.2.1 0, 7, .inl d5))]) [0, 1, 2, 3, 4, 5, 6, 7] (by decide) rfl
        exact W.iret (v := (-2)) hx hb hr (fun t ht hW => ⟨⟨(-2), (md, on, d1, d2, d3, d4, d5), rfl, Or.inr (Or.inr ⟨(by first | (rw [b_5, b_10, b_14]; done) | (rw [b_5, b_10, b_14]; rfl)), rfl, rfl⟩), (by omega), hd1, by rw [ht]; exact hP9, hD9⟩, hS.F ht⟩) hS.2.2 dX11_deliver_56
      · have b_15 : inR le 1 200 = true := bn hw_12 c_13
        refine lv_iload hx hb dX11_deliver_29 (lv_at hl 4 rfl) ?_
        refine lv_iconst (v := 0) hx hb dX11_deliver_31 (by decide) ?_
        refine lv_sipush (v := 999) hx hb dX11_deliver_32 (by decide) ?_
        have hPc := hP.sub (ws' := []) [] rfl
        have hDc := hD.sub (ws' := []) [] (by decide) rfl
        have hFc := va_free (wc := []) hD hS hA [] rfl
        refine va_calli (va_runS (As := [.int fi, .int 0, .int 999]) (rest := []) ⟨hx, hb, hml, hown, hts⟩ (c_X11_within l E fi 0 999 H.size ) (va_cwS 3 hts gX11_deliver_X11_within rfl rfl rfl hdS_X11_within ⟨Nat.le_of_ble_eq_true rfl, Nat.le_of_ble_eq_true rfl⟩) ⟨pcW_blind, (pcW_pre hPc hkn hDc hst hS hFc)⟩ rfl rfl hl.1 rfl (lv_room (Nat.le_of_ble_eq_true rfl)) dX11_deliver_35 ⟨Nat.le_of_ble_eq_true rfl, Nat.le_of_ble_eq_true rfl⟩) hS (fun q _ h => hFc q h) hFc (fun r_16 u t H1 locs ht hvm hw_17 hB hz1 hk1 hS => ?_)
        obtain ⟨hP1, hD1⟩ := hB
        rw [ht] at hP1
        try dsimp only at hw_17
        obtain ⟨hP, hD⟩ := va_join (wr := [(h0, .inr (11, [.ref tp, .ref rd, .ref se, .ref ba, .ref of, .ref pl, .ref sr, .ref sc, .int wk])), (pl, .inr (5, [.ref of, .ref k1, .ref k2, .ref k3, .ref k4, .int md, .int dn, .int fsu])), (of, .inr (2, [.ref g1, .ref g2, .ref g3, .ref g4, .ref g5, .int (nI on), .ref g6, .ref g7, .ref g8])), (g1, .inl (E.2.1 0, 7, .inl d1)), (g2, .inl (E.2.1 0, 7, .inl d2)), (g3, .inl (E.2.1 0, 7, .inl d3)), (g4, .inl (E.2.1 0, 7, .inl d4)), (g5, .inl (E.2.1 0, 7, .inl d5))]) (w1 := []) hP hD [] [0, 1, 2, 3, 4, 5, 6, 7] rfl rfl (by decide) (by decide) hk1 hFc hP1 hD1
        generalize H1 = H at hP hS ⊢
        have hP : va_P E.1 vwCl [(h0, .inr (11, [.ref tp, .ref rd, .ref se, .ref ba, .ref of, .ref pl, .ref sr, .ref sc, .int wk])), (pl, .inr (5, [.ref of, .ref k1, .ref k2, .ref k3, .ref k4, .int md, .int dn, .int fsu])), (of, .inr (2, [.ref g1, .ref g2, .ref g3, .ref g4, .ref g5, .int (nI on), .ref g6, .ref g7, .ref g8])), (g1, .inl (E.2.1 0, 7, .inl d1)), (g2, .inl (E.2.1 0, 7, .inl d2)), (g3, .inl (E.2.1 0, 7, .inl d3)), (g4, .inl (E.2.1 0, 7, .inl d4)), (g5, .inl (E.2.1 0, 7, .inl d5))] H := hP
        have hD : va_D A [(h0, .inr (11, [.ref tp, .ref rd, .ref se, .ref ba, .ref of, .ref pl, .ref sr, .ref sc, .int wk])), (pl, .inr (5, [.ref of, .ref k1, .ref k2, .ref k3, .ref k4, .int md, .int dn, .int fsu])), (of, .inr (2, [.ref g1, .ref g2, .ref g3, .ref g4, .ref g5, .int (nI on), .ref g6, .ref g7, .ref g8])), (g1, .inl (E.2.1 0, 7, .inl d1)), (g2, .inl (E.2.1 0, 7, .inl d2)), (g3, .inl (E.2.1 0, 7, .inl d3)), (g4, .inl (E.2.1 0, 7, .inl d4)), (g5, .inl (E.2.1 0, 7, .inl d5))] := hD
        refine lv_if_eq (tgt := 54) hx hb dX11_deliver_38 (by decide) (fun c_18 => ?_) (fun c_18 => ?_)
        · have b_19 : inR fi 0 999 = false := bz hw_17 c_18
          refine lv_bipush (v := (-2)) hx hb dX11_deliver_54 (by decide) ?_
          have hP9 := hP.sub (ws' := [(h0, .inr (11, [.ref tp, .ref rd, .ref se, .ref ba, .ref of, .ref pl, .ref sr, .ref sc, .int wk])), (pl, .inr (5, [.ref of, .ref k1, .ref k2, .ref k3, .ref k4, .int md, .int dn, .int fsu])), (of, .inr (2, [.ref g1, .ref g2, .ref g3, .ref g4, .ref g5, .int (nI on), .ref g6, .ref g7, .ref g8])), (g1, .inl (E.2.1 0, 7, .inl d1)), (g2, .inl (E.2.1 0, 7, .inl d2)), (g3, .inl (E.2.1 0, 7, .inl d3)), (g4, .inl (E.2.1 0, 7, .inl d4)), (g5, .inl (E.2.1 0, 7, .inl d5))]) [0, 1, 2, 3, 4, 5, 6, 7] rfl
          have hD9 := hD.sub (ws' := [(h0, .inr (11, [.ref tp, .ref rd, .ref se, .ref ba, .ref of, .ref pl, .ref sr, .ref sc, .int wk])), (pl, .inr (5, [.ref of, .ref k1, .ref k2, .ref k3, .ref k4, .int md, .int dn, .int fsu])), (of, .inr (2, [.ref g1, .ref g2, .ref g3, .ref g4, .ref g5, .int (nI on), .ref g6, .ref g7, .ref g8])), (g1, .inl (E.2.1 0, 7, .inl d1)), (g2, .inl (E.2.1 0, 7, .inl d2)), (g3, .inl (E.2.1 0, 7, .inl d3)), (g4, .inl (E.2.1 0, 7, .inl d4)), (g5, .inl (E.2.1 0, 7, .inl d5))]) [0, 1, 2, 3, 4, 5, 6, 7] (by decide) rfl
          exact W.iret (v := (-2)) hx hb hr (fun t ht hW => ⟨⟨(-2), (md, on, d1, d2, d3, d4, d5), rfl, Or.inr (Or.inr ⟨(by first | (rw [b_5, b_10, b_15, b_19]; done) | (rw [b_5, b_10, b_15, b_19]; rfl)), rfl, rfl⟩), (by omega), hd1, by rw [ht]; exact hP9, hD9⟩, hS.F ht⟩) hS.2.2 dX11_deliver_56
        · have b_20 : inR fi 0 999 = true := bn hw_17 c_18
          refine lv_iload hx hb dX11_deliver_41 (lv_at hl 5 rfl) ?_
          refine lv_iload hx hb dX11_deliver_43 (lv_at hl 4 rfl) ?_
          refine lv_sipush (v := 999) hx hb dX11_deliver_45 (by decide) ?_
          have hPc := hP.sub (ws' := []) [] rfl
          have hDc := hD.sub (ws' := []) [] (by decide) rfl
          have hFc := va_free (wc := []) hD hS hA [] rfl
          refine va_calli (va_runS (As := [.int la, .int fi, .int 999]) (rest := []) ⟨hx, hb, hml, hown, hts⟩ (c_X11_within l E la fi 999 H.size ) (va_cwS 3 hts gX11_deliver_X11_within rfl rfl rfl hdS_X11_within ⟨Nat.le_of_ble_eq_true rfl, Nat.le_of_ble_eq_true rfl⟩) ⟨pcW_blind, (pcW_pre hPc hkn hDc hst hS hFc)⟩ rfl rfl hl.1 rfl (lv_room (Nat.le_of_ble_eq_true rfl)) dX11_deliver_48 ⟨Nat.le_of_ble_eq_true rfl, Nat.le_of_ble_eq_true rfl⟩) hS (fun q _ h => hFc q h) hFc (fun r_21 u t H1 locs ht hvm hw_22 hB hz1 hk1 hS => ?_)
          obtain ⟨hP1, hD1⟩ := hB
          rw [ht] at hP1
          try dsimp only at hw_22
          obtain ⟨hP, hD⟩ := va_join (wr := [(h0, .inr (11, [.ref tp, .ref rd, .ref se, .ref ba, .ref of, .ref pl, .ref sr, .ref sc, .int wk])), (pl, .inr (5, [.ref of, .ref k1, .ref k2, .ref k3, .ref k4, .int md, .int dn, .int fsu])), (of, .inr (2, [.ref g1, .ref g2, .ref g3, .ref g4, .ref g5, .int (nI on), .ref g6, .ref g7, .ref g8])), (g1, .inl (E.2.1 0, 7, .inl d1)), (g2, .inl (E.2.1 0, 7, .inl d2)), (g3, .inl (E.2.1 0, 7, .inl d3)), (g4, .inl (E.2.1 0, 7, .inl d4)), (g5, .inl (E.2.1 0, 7, .inl d5))]) (w1 := []) hP hD [] [0, 1, 2, 3, 4, 5, 6, 7] rfl rfl (by decide) (by decide) hk1 hFc hP1 hD1
          generalize H1 = H at hP hS ⊢
          have hP : va_P E.1 vwCl [(h0, .inr (11, [.ref tp, .ref rd, .ref se, .ref ba, .ref of, .ref pl, .ref sr, .ref sc, .int wk])), (pl, .inr (5, [.ref of, .ref k1, .ref k2, .ref k3, .ref k4, .int md, .int dn, .int fsu])), (of, .inr (2, [.ref g1, .ref g2, .ref g3, .ref g4, .ref g5, .int (nI on), .ref g6, .ref g7, .ref g8])), (g1, .inl (E.2.1 0, 7, .inl d1)), (g2, .inl (E.2.1 0, 7, .inl d2)), (g3, .inl (E.2.1 0, 7, .inl d3)), (g4, .inl (E.2.1 0, 7, .inl d4)), (g5, .inl (E.2.1 0, 7, .inl d5))] H := hP
          have hD : va_D A [(h0, .inr (11, [.ref tp, .ref rd, .ref se, .ref ba, .ref of, .ref pl, .ref sr, .ref sc, .int wk])), (pl, .inr (5, [.ref of, .ref k1, .ref k2, .ref k3, .ref k4, .int md, .int dn, .int fsu])), (of, .inr (2, [.ref g1, .ref g2, .ref g3, .ref g4, .ref g5, .int (nI on), .ref g6, .ref g7, .ref g8])), (g1, .inl (E.2.1 0, 7, .inl d1)), (g2, .inl (E.2.1 0, 7, .inl d2)), (g3, .inl (E.2.1 0, 7, .inl d3)), (g4, .inl (E.2.1 0, 7, .inl d4)), (g5, .inl (E.2.1 0, 7, .inl d5))] := hD
          refine lv_if_ne (tgt := 57) hx hb dX11_deliver_51 (by decide) (fun c_23 => ?_) (fun c_23 => ?_)
          · have b_24 : inR la fi 999 = true := bn hw_22 c_23
            refine lv_aload_n hx hb dX11_deliver_57 rfl (lv_at hl 0 rfl) ?_
            refine va_get (D := E.1) (ci := 11) (v := .ref of) (C := RX11) (T := TX11) (N := 9) hx hb hts inX11 hown hK hP 0 rfl rfl 4 (by decide) fl42 (fun _ h9 => h9) rfl dX11_deliver_58 ?_
            refine va_get (D := E.1) (ci := 2) (v := .int (nI on)) (C := RX2) (T := TX2) (N := 9) hx hb hts inX2 hown hK hP 2 rfl rfl 5 (by decide) fl197 (fun _ h9 => h9) rfl dX11_deliver_61 ?_
            refine lv_bipush (v := 7) hx hb dX11_deliver_64 (by decide) ?_
            refine lv_icmp_lt (tgt := 72) hx hb dX11_deliver_66 (by decide) (fun c_25 => ?_) (fun c_25 => ?_)
            · have hon7 : on < 7 := by
                rcases Nat.lt_or_ge on 7 with q | q
                · exact q
                · exact absurd (nI_le (a := 7) q (by omega)) (by first | exact c_25 | exact Int32.not_le.mpr c_25)
              refine lv_aload_n hx hb dX11_deliver_72 rfl (lv_at hl 0 rfl) ?_
              refine va_get (D := E.1) (ci := 11) (v := .ref pl) (C := RX11) (T := TX11) (N := 9) hx hb hts inX11 hown hK hP 0 rfl rfl 5 (by decide) fl51 (fun _ h9 => h9) rfl dX11_deliver_73 ?_
              refine lv_iconst (v := 0) hx hb dX11_deliver_76 (by decide) ?_
              refine va_put (D := E.1) (ci := 5) (v := .int 0) (ty := .boolean) (C := RX5) (T := TX5) (N := 8) hx hb hts inX5 tyX5 tyX5_ok nmX5 hown hK hP hD hS 1 rfl rfl 5 (by decide) fl198 (fun _ h9 => h9) rfl (by decide +kernel) (by first | rfl | decide) (by first | rfl | decide) (Nat.le_of_ble_eq_true rfl) dX11_deliver_77 (fun H locs hP hD hS => ?_)
              have hP : va_P E.1 vwCl [(h0, .inr (11, [.ref tp, .ref rd, .ref se, .ref ba, .ref of, .ref pl, .ref sr, .ref sc, .int wk])), (pl, .inr (5, [.ref of, .ref k1, .ref k2, .ref k3, .ref k4, .int 0, .int dn, .int fsu])), (of, .inr (2, [.ref g1, .ref g2, .ref g3, .ref g4, .ref g5, .int (nI on), .ref g6, .ref g7, .ref g8])), (g1, .inl (E.2.1 0, 7, .inl d1)), (g2, .inl (E.2.1 0, 7, .inl d2)), (g3, .inl (E.2.1 0, 7, .inl d3)), (g4, .inl (E.2.1 0, 7, .inl d4)), (g5, .inl (E.2.1 0, 7, .inl d5))] H := hP
              have hD : va_D A [(h0, .inr (11, [.ref tp, .ref rd, .ref se, .ref ba, .ref of, .ref pl, .ref sr, .ref sc, .int wk])), (pl, .inr (5, [.ref of, .ref k1, .ref k2, .ref k3, .ref k4, .int 0, .int dn, .int fsu])), (of, .inr (2, [.ref g1, .ref g2, .ref g3, .ref g4, .ref g5, .int (nI on), .ref g6, .ref g7, .ref g8])), (g1, .inl (E.2.1 0, 7, .inl d1)), (g2, .inl (E.2.1 0, 7, .inl d2)), (g3, .inl (E.2.1 0, 7, .inl d3)), (g4, .inl (E.2.1 0, 7, .inl d4)), (g5, .inl (E.2.1 0, 7, .inl d5))] := hD
              refine lv_aload_n hx hb dX11_deliver_80 rfl (lv_at hl 0 rfl) ?_
              refine va_get (D := E.1) (ci := 11) (v := .ref of) (C := RX11) (T := TX11) (N := 9) hx hb hts inX11 hown hK hP 0 rfl rfl 4 (by decide) fl42 (fun _ h9 => h9) rfl dX11_deliver_81 ?_
              refine lv_iload_n hx hb dX11_deliver_84 rfl (lv_at hl 1 rfl) ?_
              refine lv_iload_n hx hb dX11_deliver_85 rfl (lv_at hl 2 rfl) ?_
              refine lv_iload_n hx hb dX11_deliver_86 rfl (lv_at hl 3 rfl) ?_
              refine lv_iload hx hb dX11_deliver_87 (lv_at hl 4 rfl) ?_
              refine lv_iload hx hb dX11_deliver_89 (lv_at hl 5 rfl) ?_
              have hPc := hP.sub (ws' := [(of, .inr (2, [.ref g1, .ref g2, .ref g3, .ref g4, .ref g5, .int (nI on), .ref g6, .ref g7, .ref g8])), (g1, .inl (E.2.1 0, 7, .inl d1)), (g2, .inl (E.2.1 0, 7, .inl d2)), (g3, .inl (E.2.1 0, 7, .inl d3)), (g4, .inl (E.2.1 0, 7, .inl d4)), (g5, .inl (E.2.1 0, 7, .inl d5))]) [2, 3, 4, 5, 6, 7] rfl
              have hDc := hD.sub (ws' := [(of, .inr (2, [.ref g1, .ref g2, .ref g3, .ref g4, .ref g5, .int (nI on), .ref g6, .ref g7, .ref g8])), (g1, .inl (E.2.1 0, 7, .inl d1)), (g2, .inl (E.2.1 0, 7, .inl d2)), (g3, .inl (E.2.1 0, 7, .inl d3)), (g4, .inl (E.2.1 0, 7, .inl d4)), (g5, .inl (E.2.1 0, 7, .inl d5))]) [2, 3, 4, 5, 6, 7] (by decide) rfl
              have hFc := va_free (wc := [(of, .inr (2, [.ref g1, .ref g2, .ref g3, .ref g4, .ref g5, .int (nI on), .ref g6, .ref g7, .ref g8])), (g1, .inl (E.2.1 0, 7, .inl d1)), (g2, .inl (E.2.1 0, 7, .inl d2)), (g3, .inl (E.2.1 0, 7, .inl d3)), (g4, .inl (E.2.1 0, 7, .inl d4)), (g5, .inl (E.2.1 0, 7, .inl d5))]) hD hS hA [2, 3, 4, 5, 6, 7] rfl
              refine va_calli (va_runV (As := [.int fr, .int to_, .int le, .int fi, .int la]) (rest := []) ⟨hx, hb, hml, hown, hts⟩ (c_X2_add l E of g1 g2 g3 g4 g5 g6 g7 g8 on d1 d2 d3 d4 d5 fr to_ le fi la H.size hon7 hd1 b_5) (cwV 5 hts gX11_deliver_X2_add rfl rfl rfl hdV_X2_add ⟨Nat.le_of_ble_eq_true rfl, Nat.le_of_ble_eq_true rfl⟩) ⟨pcW_blind, va_recv hK hPc (ci := 2) (q0 := 0) rfl rfl, (pcW_pre hPc hkn hDc hst hS hFc)⟩ rfl rfl hl.1 rfl (lv_room (Nat.le_of_ble_eq_true rfl)) dX11_deliver_91 ⟨Nat.le_of_ble_eq_true rfl, Nat.le_of_ble_eq_true rfl⟩) hS (fun q _ h => hFc q h) hFc (fun r_26 u t H1 locs ht hvm hw_27 hB hz1 hk1 hS => ?_)
              obtain ⟨u_28, u_29, u_30, u_31, u_32⟩ := u
              obtain ⟨hf_33, hP1, hD1⟩ := hB
              rw [ht] at hP1
              try dsimp only at hw_27
              obtain ⟨hP, hD⟩ := va_join (wr := [(h0, .inr (11, [.ref tp, .ref rd, .ref se, .ref ba, .ref of, .ref pl, .ref sr, .ref sc, .int wk])), (pl, .inr (5, [.ref of, .ref k1, .ref k2, .ref k3, .ref k4, .int 0, .int dn, .int fsu]))]) (w1 := [(of, .inr (2, [.ref g1, .ref g2, .ref g3, .ref g4, .ref g5, .int (nI (on + 1)), .ref g6, .ref g7, .ref g8])), (g1, .inl (E.2.1 0, 7, .inl u_28)), (g2, .inl (E.2.1 0, 7, .inl u_29)), (g3, .inl (E.2.1 0, 7, .inl u_30)), (g4, .inl (E.2.1 0, 7, .inl u_31)), (g5, .inl (E.2.1 0, 7, .inl u_32))]) hP hD [2, 3, 4, 5, 6, 7] [0, 1] rfl rfl (by decide) (by decide) hk1 hFc hP1 hD1
              generalize H1 = H at hP hS ⊢
              have hP : va_P E.1 vwCl [(h0, .inr (11, [.ref tp, .ref rd, .ref se, .ref ba, .ref of, .ref pl, .ref sr, .ref sc, .int wk])), (pl, .inr (5, [.ref of, .ref k1, .ref k2, .ref k3, .ref k4, .int 0, .int dn, .int fsu])), (of, .inr (2, [.ref g1, .ref g2, .ref g3, .ref g4, .ref g5, .int (nI (on + 1)), .ref g6, .ref g7, .ref g8])), (g1, .inl (E.2.1 0, 7, .inl u_28)), (g2, .inl (E.2.1 0, 7, .inl u_29)), (g3, .inl (E.2.1 0, 7, .inl u_30)), (g4, .inl (E.2.1 0, 7, .inl u_31)), (g5, .inl (E.2.1 0, 7, .inl u_32))] H := hP
              have hD : va_D A [(h0, .inr (11, [.ref tp, .ref rd, .ref se, .ref ba, .ref of, .ref pl, .ref sr, .ref sc, .int wk])), (pl, .inr (5, [.ref of, .ref k1, .ref k2, .ref k3, .ref k4, .int 0, .int dn, .int fsu])), (of, .inr (2, [.ref g1, .ref g2, .ref g3, .ref g4, .ref g5, .int (nI (on + 1)), .ref g6, .ref g7, .ref g8])), (g1, .inl (E.2.1 0, 7, .inl u_28)), (g2, .inl (E.2.1 0, 7, .inl u_29)), (g3, .inl (E.2.1 0, 7, .inl u_30)), (g4, .inl (E.2.1 0, 7, .inl u_31)), (g5, .inl (E.2.1 0, 7, .inl u_32))] := hD
              have hP9 := hP.sub (ws' := [(h0, .inr (11, [.ref tp, .ref rd, .ref se, .ref ba, .ref of, .ref pl, .ref sr, .ref sc, .int wk])), (pl, .inr (5, [.ref of, .ref k1, .ref k2, .ref k3, .ref k4, .int 0, .int dn, .int fsu])), (of, .inr (2, [.ref g1, .ref g2, .ref g3, .ref g4, .ref g5, .int (nI (on + 1)), .ref g6, .ref g7, .ref g8])), (g1, .inl (E.2.1 0, 7, .inl u_28)), (g2, .inl (E.2.1 0, 7, .inl u_29)), (g3, .inl (E.2.1 0, 7, .inl u_30)), (g4, .inl (E.2.1 0, 7, .inl u_31)), (g5, .inl (E.2.1 0, 7, .inl u_32))]) [0, 1, 2, 3, 4, 5, 6, 7] rfl
              have hD9 := hD.sub (ws' := [(h0, .inr (11, [.ref tp, .ref rd, .ref se, .ref ba, .ref of, .ref pl, .ref sr, .ref sc, .int wk])), (pl, .inr (5, [.ref of, .ref k1, .ref k2, .ref k3, .ref k4, .int 0, .int dn, .int fsu])), (of, .inr (2, [.ref g1, .ref g2, .ref g3, .ref g4, .ref g5, .int (nI (on + 1)), .ref g6, .ref g7, .ref g8])), (g1, .inl (E.2.1 0, 7, .inl u_28)), (g2, .inl (E.2.1 0, 7, .inl u_29)), (g3, .inl (E.2.1 0, 7, .inl u_30)), (g4, .inl (E.2.1 0, 7, .inl u_31)), (g5, .inl (E.2.1 0, 7, .inl u_32))]) [0, 1, 2, 3, 4, 5, 6, 7] (by decide) rfl
              exact W.iret (v := r_26) hx hb hr (fun t ht hW => ⟨⟨r_26, (0, (on + 1), u_28, u_29, u_30, u_31, u_32), rfl, Or.inl ⟨(by first | (rw [b_5, b_10, b_15, b_20, b_24]; done) | (rw [b_5, b_10, b_15, b_20, b_24]; rfl)), hon7, hw_27, rfl⟩, (by omega), hf_33, by rw [ht]; exact hP9, hD9⟩, hS.F ht⟩) hS.2.2 dX11_deliver_94
            · refine lv_bipush (v := (-3)) hx hb dX11_deliver_69 (by decide) ?_
              have hP9 := hP.sub (ws' := [(h0, .inr (11, [.ref tp, .ref rd, .ref se, .ref ba, .ref of, .ref pl, .ref sr, .ref sc, .int wk])), (pl, .inr (5, [.ref of, .ref k1, .ref k2, .ref k3, .ref k4, .int md, .int dn, .int fsu])), (of, .inr (2, [.ref g1, .ref g2, .ref g3, .ref g4, .ref g5, .int (nI on), .ref g6, .ref g7, .ref g8])), (g1, .inl (E.2.1 0, 7, .inl d1)), (g2, .inl (E.2.1 0, 7, .inl d2)), (g3, .inl (E.2.1 0, 7, .inl d3)), (g4, .inl (E.2.1 0, 7, .inl d4)), (g5, .inl (E.2.1 0, 7, .inl d5))]) [0, 1, 2, 3, 4, 5, 6, 7] rfl
              have hD9 := hD.sub (ws' := [(h0, .inr (11, [.ref tp, .ref rd, .ref se, .ref ba, .ref of, .ref pl, .ref sr, .ref sc, .int wk])), (pl, .inr (5, [.ref of, .ref k1, .ref k2, .ref k3, .ref k4, .int md, .int dn, .int fsu])), (of, .inr (2, [.ref g1, .ref g2, .ref g3, .ref g4, .ref g5, .int (nI on), .ref g6, .ref g7, .ref g8])), (g1, .inl (E.2.1 0, 7, .inl d1)), (g2, .inl (E.2.1 0, 7, .inl d2)), (g3, .inl (E.2.1 0, 7, .inl d3)), (g4, .inl (E.2.1 0, 7, .inl d4)), (g5, .inl (E.2.1 0, 7, .inl d5))]) [0, 1, 2, 3, 4, 5, 6, 7] (by decide) rfl
              exact W.iret (v := (-3)) hx hb hr (fun t ht hW => ⟨⟨(-3), (md, on, d1, d2, d3, d4, d5), rfl, Or.inr (Or.inl ⟨(by first | (rw [b_5, b_10, b_15, b_20, b_24]; done) | (rw [b_5, b_10, b_15, b_20, b_24]; rfl)), (show on = 7 from by
                    rcases Nat.lt_or_ge on 7 with q | q
                    · exact absurd (nI_lt (b := 7) q (by decide)) (by first | exact c_25 | exact Int32.not_lt.mpr c_25)
                    · omega), rfl, rfl⟩), (by omega), hd1, by rw [ht]; exact hP9, hD9⟩, hS.F ht⟩) hS.2.2 dX11_deliver_71
          · have b_34 : inR la fi 999 = false := bz hw_22 c_23
            refine lv_bipush (v := (-2)) hx hb dX11_deliver_54 (by decide) ?_
            have hP9 := hP.sub (ws' := [(h0, .inr (11, [.ref tp, .ref rd, .ref se, .ref ba, .ref of, .ref pl, .ref sr, .ref sc, .int wk])), (pl, .inr (5, [.ref of, .ref k1, .ref k2, .ref k3, .ref k4, .int md, .int dn, .int fsu])), (of, .inr (2, [.ref g1, .ref g2, .ref g3, .ref g4, .ref g5, .int (nI on), .ref g6, .ref g7, .ref g8])), (g1, .inl (E.2.1 0, 7, .inl d1)), (g2, .inl (E.2.1 0, 7, .inl d2)), (g3, .inl (E.2.1 0, 7, .inl d3)), (g4, .inl (E.2.1 0, 7, .inl d4)), (g5, .inl (E.2.1 0, 7, .inl d5))]) [0, 1, 2, 3, 4, 5, 6, 7] rfl
            have hD9 := hD.sub (ws' := [(h0, .inr (11, [.ref tp, .ref rd, .ref se, .ref ba, .ref of, .ref pl, .ref sr, .ref sc, .int wk])), (pl, .inr (5, [.ref of, .ref k1, .ref k2, .ref k3, .ref k4, .int md, .int dn, .int fsu])), (of, .inr (2, [.ref g1, .ref g2, .ref g3, .ref g4, .ref g5, .int (nI on), .ref g6, .ref g7, .ref g8])), (g1, .inl (E.2.1 0, 7, .inl d1)), (g2, .inl (E.2.1 0, 7, .inl d2)), (g3, .inl (E.2.1 0, 7, .inl d3)), (g4, .inl (E.2.1 0, 7, .inl d4)), (g5, .inl (E.2.1 0, 7, .inl d5))]) [0, 1, 2, 3, 4, 5, 6, 7] (by decide) rfl
            exact W.iret (v := (-2)) hx hb hr (fun t ht hW => ⟨⟨(-2), (md, on, d1, d2, d3, d4, d5), rfl, Or.inr (Or.inr ⟨(by first | (rw [b_5, b_10, b_15, b_20, b_34]; done) | (rw [b_5, b_10, b_15, b_20, b_34]; rfl)), rfl, rfl⟩), (by omega), hd1, by rw [ht]; exact hP9, hD9⟩, hS.F ht⟩) hS.2.2 dX11_deliver_56
set_option maxHeartbeats 4000000 in
set_option maxRecDepth 100000 in
theorem c_X11_flight (l : Launch) (E : vE) (h0 : Nat) (tp : Nat) (rd : Nat) (se : Nat) (ba : Nat) (of : Nat) (pl : Nat) (sr : Nat) (sc : Nat) (wk : Int32) (k1 : Nat) (k2 : Nat) (k3 : Nat) (k4 : Nat) (md : Int32) (dn : Int32) (fsu : Int32) (g1 : Nat) (g2 : Nat) (g3 : Nat) (g4 : Nat) (g5 : Nat) (g6 : Nat) (g7 : Nat) (g8 : Nat) (on : Nat) (d8 : Nat → Int32) (pp : Int32) (qq : Int32) (cost : Int32) (sz : Nat) : Met l yX11_flight wsX11_flight ({ frames := 2, cells := 0, slots := 0, locals := 40 }) (pcW E [.ref h0, .int pp, .int qq, .int cost] sz [(h0, .inr (11, [.ref tp, .ref rd, .ref se, .ref ba, .ref of, .ref pl, .ref sr, .ref sc, .int wk])), (pl, .inr (5, [.ref of, .ref k1, .ref k2, .ref k3, .ref k4, .int md, .int dn, .int fsu])), (of, .inr (2, [.ref g1, .ref g2, .ref g3, .ref g4, .ref g5, .int (nI on), .ref g6, .ref g7, .ref g8])), (g8, .inl (E.2.1 0, 100, .inl d8))]) (va_Qi (fun (r : Int32) (u : Int32 × (Nat → Int32)) => match u with | (md2, d82) => ((inR pp 0 9 && inR qq 0 9 && !(decide (pp = qq)) && inR cost (-1) 10000) = true ∧ r = d8 (pp * 10 + qq).toNatClampNeg ∧ d82 = upd (upd d8 (pp * 10 + qq).toNatClampNeg cost) (qq * 10 + pp).toNatClampNeg cost) ∨ ((inR pp 0 9 && inR qq 0 9 && !(decide (pp = qq)) && inR cost (-1) 10000) = false ∧ r = -2 ∧ d82 = d8)) (fun (u : Int32 × (Nat → Int32)) (t : State) => match u with | (md2, d82) => wB E (va_A [(h0, .inr (11, [.ref tp, .ref rd, .ref se, .ref ba, .ref of, .ref pl, .ref sr, .ref sc, .int wk])), (pl, .inr (5, [.ref of, .ref k1, .ref k2, .ref k3, .ref k4, .int md, .int dn, .int fsu])), (of, .inr (2, [.ref g1, .ref g2, .ref g3, .ref g4, .ref g5, .int (nI on), .ref g6, .ref g7, .ref g8])), (g8, .inl (E.2.1 0, 100, .inl d8))] sz) [(h0, .inr (11, [.ref tp, .ref rd, .ref se, .ref ba, .ref of, .ref pl, .ref sr, .ref sc, .int wk])), (pl, .inr (5, [.ref of, .ref k1, .ref k2, .ref k3, .ref k4, .int md2, .int dn, .int fsu])), (of, .inr (2, [.ref g1, .ref g2, .ref g3, .ref g4, .ref g5, .int (nI on), .ref g6, .ref g7, .ref g8])), (g8, .inl (E.2.1 0, 100, .inl d82))] t) (va_A [(h0, .inr (11, [.ref tp, .ref rd, .ref se, .ref ba, .ref of, .ref pl, .ref sr, .ref sc, .int wk])), (pl, .inr (5, [.ref of, .ref k1, .ref k2, .ref k3, .ref k4, .int md, .int dn, .int fsu])), (of, .inr (2, [.ref g1, .ref g2, .ref g3, .ref g4, .ref g5, .int (nI on), .ref g6, .ref g7, .ref g8])), (g8, .inl (E.2.1 0, 100, .inl d8))] sz)) 0 0 (va_A [(h0, .inr (11, [.ref tp, .ref rd, .ref se, .ref ba, .ref of, .ref pl, .ref sr, .ref sc, .int wk])), (pl, .inr (5, [.ref of, .ref k1, .ref k2, .ref k3, .ref k4, .int md, .int dn, .int fsu])), (of, .inr (2, [.ref g1, .ref g2, .ref g3, .ref g4, .ref g5, .int (nI on), .ref g6, .ref g7, .ref g8])), (g8, .inl (E.2.1 0, 100, .inl d8))] sz) := by
  refine Met.ofW (cc := cX11_flight) (maxL := 5) (ret := (some .int)) (by decide) rfl ?_
  intro p e s m args below meth c s₁ B hml hv
  obtain ⟨rfl, hsz, hP, hkn, hD0, hst⟩ := hv
  have hx := B.exec
  have hb := B.bytes
  have hr := B.returns
  have hts := atoms_spec (ws := wsX11_flight) B.pre
  have hown : s.vm.findClass RX11 = some m.cls := findClass_of_methodNamed B.named
  have hlocks := B.notSynchronized
  subst hsz
  have hD := hD0.self (sz := s.heap.size)
  have hK := hkn.1
  have hAO := hkn.2.2.1
  generalize hAe : va_A [(h0, .inr (11, [.ref tp, .ref rd, .ref se, .ref ba, .ref of, .ref pl, .ref sr, .ref sc, .int wk])), (pl, .inr (5, [.ref of, .ref k1, .ref k2, .ref k3, .ref k4, .int md, .int dn, .int fsu])), (of, .inr (2, [.ref g1, .ref g2, .ref g3, .ref g4, .ref g5, .int (nI on), .ref g6, .ref g7, .ref g8])), (g8, .inl (E.2.1 0, 100, .inl d8))] s.heap.size = A at hD hst ⊢
  have hA : ∀ q : Nat, s.heap.size ≤ q → A q := fun q h => by rw [← hAe]; exact Or.inr h
  have hS : va_S A s.heap s.heap [] := va_S.rf
  have hP : va_P E.1 vwCl [(h0, .inr (11, [.ref tp, .ref rd, .ref se, .ref ba, .ref of, .ref pl, .ref sr, .ref sc, .int wk])), (pl, .inr (5, [.ref of, .ref k1, .ref k2, .ref k3, .ref k4, .int md, .int dn, .int fsu])), (of, .inr (2, [.ref g1, .ref g2, .ref g3, .ref g4, .ref g5, .int (nI on), .ref g6, .ref g7, .ref g8])), (g8, .inl (E.2.1 0, 100, .inl d8))] s.heap := hP
  have hl := lv_entry ([.ref h0, .int pp, .int qq, .int cost]) (n := 5) (Nat.le_of_ble_eq_true rfl)
  rw [lg_entry_eq]
  generalize (lg_sl ([.ref h0, .int pp, .int qq, .int cost]) ++ List.replicate (5 - (lg_sl ([.ref h0, .int pp, .int qq, .int cost])).length) Slot.unset).toArray = ls at hl ⊢
  have hl : lv_has ls 5 [(0, .ref h0), (1, .int pp), (2, .int qq), (3, .int cost)] := hl
  have fl42 := hts (.fieldLink RX11 42 "BoatsHome" "offers" "LBoatsHome$Offers;") (by first | exact List.mem_of_getElem? (i := 3) rfl | decide +kernel)
  have fl51 := hts (.fieldLink RX11 51 "BoatsHome" "latestPlan" "LBoatsHome$Plan;") (by first | exact List.mem_of_getElem? (i := 1) rfl | decide +kernel)
  have fl198 := hts (.fieldLink RX11 198 "BoatsHome$Plan" "made" "Z") (by first | exact List.mem_of_getElem? (i := 2) rfl | decide +kernel)
  have fl212 := hts (.fieldLink RX11 212 "BoatsHome$Offers" "fares" "[I") (by first | exact List.mem_of_getElem? (i := 4) rfl | decide +kernel)
  have inX11 : ∀ w ∈ u_ws RX11 TX11 9, w ∈ wsX11_flight := by first | exact fun w h9 => (List.mem_cons_of_mem _ (List.mem_append_left _ (List.mem_append_left _ (List.mem_append_right _ h9)))) | decide +kernel
  have inX2 : ∀ w ∈ u_ws RX2 TX2 9, w ∈ wsX11_flight := by first | exact fun w h9 => (List.mem_cons_of_mem _ (List.mem_append_right _ h9)) | decide +kernel
  have inX5 : ∀ w ∈ u_ws RX5 TX5 8, w ∈ wsX11_flight := by first | exact fun w h9 => (List.mem_cons_of_mem _ (List.mem_append_left _ (List.mem_append_right _ h9))) | decide +kernel
  refine lv_iload_n hx hb dX11_flight_0 rfl (lv_at hl 1 rfl) ?_
  refine lv_bipush (v := 10) hx hb dX11_flight_1 (by decide) ?_
  have hPc := hP.sub (ws' := []) [] rfl
  have hDc := hD.sub (ws' := []) [] (by decide) rfl
  have hFc := va_free (wc := []) hD hS hA [] rfl
  refine va_calli (va_runS (As := [.int pp, .int 10]) (rest := []) ⟨hx, hb, hml, hown, hts⟩ (c_X11_below l E pp 10 9 s.heap.size (lt_le (by decide))) (va_cwS 2 hts gX11_flight_X11_below rfl rfl rfl hdS_X11_below ⟨Nat.le_of_ble_eq_true rfl, Nat.le_of_ble_eq_true rfl⟩) ⟨pcW_blind, (pcW_pre hPc hkn hDc hst hS hFc)⟩ rfl rfl hl.1 rfl (lv_room (Nat.le_of_ble_eq_true rfl)) dX11_flight_3 ⟨Nat.le_of_ble_eq_true rfl, Nat.le_of_ble_eq_true rfl⟩) hS (fun q _ h => hFc q h) hFc (fun r_1 u t H1 locs ht hvm hw_2 hB hz1 hk1 hS => ?_)
  obtain ⟨hP1, hD1⟩ := hB
  rw [ht] at hP1
  try dsimp only at hw_2
  obtain ⟨hP, hD⟩ := va_join (wr := [(h0, .inr (11, [.ref tp, .ref rd, .ref se, .ref ba, .ref of, .ref pl, .ref sr, .ref sc, .int wk])), (pl, .inr (5, [.ref of, .ref k1, .ref k2, .ref k3, .ref k4, .int md, .int dn, .int fsu])), (of, .inr (2, [.ref g1, .ref g2, .ref g3, .ref g4, .ref g5, .int (nI on), .ref g6, .ref g7, .ref g8])), (g8, .inl (E.2.1 0, 100, .inl d8))]) (w1 := []) hP hD [] [0, 1, 2, 3] rfl rfl (by decide) (by decide) hk1 hFc hP1 hD1
  generalize H1 = H at hP hS ⊢
  have hP : va_P E.1 vwCl [(h0, .inr (11, [.ref tp, .ref rd, .ref se, .ref ba, .ref of, .ref pl, .ref sr, .ref sc, .int wk])), (pl, .inr (5, [.ref of, .ref k1, .ref k2, .ref k3, .ref k4, .int md, .int dn, .int fsu])), (of, .inr (2, [.ref g1, .ref g2, .ref g3, .ref g4, .ref g5, .int (nI on), .ref g6, .ref g7, .ref g8])), (g8, .inl (E.2.1 0, 100, .inl d8))] H := hP
  have hD : va_D A [(h0, .inr (11, [.ref tp, .ref rd, .ref se, .ref ba, .ref of, .ref pl, .ref sr, .ref sc, .int wk])), (pl, .inr (5, [.ref of, .ref k1, .ref k2, .ref k3, .ref k4, .int md, .int dn, .int fsu])), (of, .inr (2, [.ref g1, .ref g2, .ref g3, .ref g4, .ref g5, .int (nI on), .ref g6, .ref g7, .ref g8])), (g8, .inl (E.2.1 0, 100, .inl d8))] := hD
  refine lv_if_eq (tgt := 34) hx hb dX11_flight_6 (by decide) (fun c_3 => ?_) (fun c_3 => ?_)
  · have b_4 : inR pp 0 9 = false := bz hw_2 c_3
    refine lv_bipush (v := (-2)) hx hb dX11_flight_34 (by decide) ?_
    have hP9 := hP.sub (ws' := [(h0, .inr (11, [.ref tp, .ref rd, .ref se, .ref ba, .ref of, .ref pl, .ref sr, .ref sc, .int wk])), (pl, .inr (5, [.ref of, .ref k1, .ref k2, .ref k3, .ref k4, .int md, .int dn, .int fsu])), (of, .inr (2, [.ref g1, .ref g2, .ref g3, .ref g4, .ref g5, .int (nI on), .ref g6, .ref g7, .ref g8])), (g8, .inl (E.2.1 0, 100, .inl d8))]) [0, 1, 2, 3] rfl
    have hD9 := hD.sub (ws' := [(h0, .inr (11, [.ref tp, .ref rd, .ref se, .ref ba, .ref of, .ref pl, .ref sr, .ref sc, .int wk])), (pl, .inr (5, [.ref of, .ref k1, .ref k2, .ref k3, .ref k4, .int md, .int dn, .int fsu])), (of, .inr (2, [.ref g1, .ref g2, .ref g3, .ref g4, .ref g5, .int (nI on), .ref g6, .ref g7, .ref g8])), (g8, .inl (E.2.1 0, 100, .inl d8))]) [0, 1, 2, 3] (by decide) rfl
    exact W.iret (v := (-2)) hx hb hr (fun t ht hW => ⟨⟨(-2), (md, d8), rfl, Or.inr ⟨(by first | (rw [b_4]; done) | (rw [b_4]; rfl)), rfl, rfl⟩, by rw [ht]; exact hP9, hD9⟩, hS.F ht⟩) hS.2.2 dX11_flight_36
  · have b_5 : inR pp 0 9 = true := bn hw_2 c_3
    refine lv_iload_n hx hb dX11_flight_9 rfl (lv_at hl 2 rfl) ?_
    refine lv_bipush (v := 10) hx hb dX11_flight_10 (by decide) ?_
    have hPc := hP.sub (ws' := []) [] rfl
    have hDc := hD.sub (ws' := []) [] (by decide) rfl
    have hFc := va_free (wc := []) hD hS hA [] rfl
    refine va_calli (va_runS (As := [.int qq, .int 10]) (rest := []) ⟨hx, hb, hml, hown, hts⟩ (c_X11_below l E qq 10 9 H.size (lt_le (by decide))) (va_cwS 2 hts gX11_flight_X11_below rfl rfl rfl hdS_X11_below ⟨Nat.le_of_ble_eq_true rfl, Nat.le_of_ble_eq_true rfl⟩) ⟨pcW_blind, (pcW_pre hPc hkn hDc hst hS hFc)⟩ rfl rfl hl.1 rfl (lv_room (Nat.le_of_ble_eq_true rfl)) dX11_flight_12 ⟨Nat.le_of_ble_eq_true rfl, Nat.le_of_ble_eq_true rfl⟩) hS (fun q _ h => hFc q h) hFc (fun r_6 u t H1 locs ht hvm hw_7 hB hz1 hk1 hS => ?_)
    obtain ⟨hP1, hD1⟩ := hB
    rw [ht] at hP1
    try dsimp only at hw_7
    obtain ⟨hP, hD⟩ := va_join (wr := [(h0, .inr (11, [.ref tp, .ref rd, .ref se, .ref ba, .ref of, .ref pl, .ref sr, .ref sc, .int wk])), (pl, .inr (5, [.ref of, .ref k1, .ref k2, .ref k3, .ref k4, .int md, .int dn, .int fsu])), (of, .inr (2, [.ref g1, .ref g2, .ref g3, .ref g4, .ref g5, .int (nI on), .ref g6, .ref g7, .ref g8])), (g8, .inl (E.2.1 0, 100, .inl d8))]) (w1 := []) hP hD [] [0, 1, 2, 3] rfl rfl (by decide) (by decide) hk1 hFc hP1 hD1
    generalize H1 = H at hP hS ⊢
    have hP : va_P E.1 vwCl [(h0, .inr (11, [.ref tp, .ref rd, .ref se, .ref ba, .ref of, .ref pl, .ref sr, .ref sc, .int wk])), (pl, .inr (5, [.ref of, .ref k1, .ref k2, .ref k3, .ref k4, .int md, .int dn, .int fsu])), (of, .inr (2, [.ref g1, .ref g2, .ref g3, .ref g4, .ref g5, .int (nI on), .ref g6, .ref g7, .ref g8])), (g8, .inl (E.2.1 0, 100, .inl d8))] H := hP
    have hD : va_D A [(h0, .inr (11, [.ref tp, .ref rd, .ref se, .ref ba, .ref of, .ref pl, .ref sr, .ref sc, .int wk])), (pl, .inr (5, [.ref of, .ref k1, .ref k2, .ref k3, .ref k4, .int md, .int dn, .int fsu])), (of, .inr (2, [.ref g1, .ref g2, .ref g3, .ref g4, .ref g5, .int (nI on), .ref g6, .ref g7, .ref g8])), (g8, .inl (E.2.1 0, 100, .inl d8))] := hD
    refine lv_if_eq (tgt := 34) hx hb dX11_flight_15 (by decide) (fun c_8 => ?_) (fun c_8 => ?_)
    · have b_9 : inR qq 0 9 = false := bz hw_7 c_8
      refine lv_bipush (v := (-2)) hx hb dX11_flight_34 (by decide) ?_
      have hP9 := hP.sub (ws' := [(h0, .inr (11, [.ref tp, .ref rd, .ref se, .ref ba, .ref of, .ref pl, .ref sr, .ref sc, .int wk])), (pl, .inr (5, [.ref of, .ref k1, .ref k2, .ref k3, .ref k4, .int md, .int dn, .int fsu])), (of, .inr (2, [.ref g1, .ref g2, .ref g3, .ref g4, .ref g5, .int (nI on), .ref g6, .ref g7, .ref g8])), (g8, .inl (E.2.1 0, 100, .inl d8))]) [0, 1, 2, 3] rfl
      have hD9 := hD.sub (ws' := [(h0, .inr (11, [.ref tp, .ref rd, .ref se, .ref ba, .ref of, .ref pl, .ref sr, .ref sc, .int wk])), (pl, .inr (5, [.ref of, .ref k1, .ref k2, .ref k3, .ref k4, .int md, .int dn, .int fsu])), (of, .inr (2, [.ref g1, .ref g2, .ref g3, .ref g4, .ref g5, .int (nI on), .ref g6, .ref g7, .ref g8])), (g8, .inl (E.2.1 0, 100, .inl d8))]) [0, 1, 2, 3] (by decide) rfl
      exact W.iret (v := (-2)) hx hb hr (fun t ht hW => ⟨⟨(-2), (md, d8), rfl, Or.inr ⟨(by first | (rw [b_5, b_9]; done) | (rw [b_5, b_9]; rfl)), rfl, rfl⟩, by rw [ht]; exact hP9, hD9⟩, hS.F ht⟩) hS.2.2 dX11_flight_36
    · have b_10 : inR qq 0 9 = true := bn hw_7 c_8
      refine lv_iload_n hx hb dX11_flight_18 rfl (lv_at hl 1 rfl) ?_
      refine lv_iload_n hx hb dX11_flight_19 rfl (lv_at hl 2 rfl) ?_
      refine lv_icmp_eq (tgt := 34) hx hb dX11_flight_20 (by decide) (fun c_11 => ?_) (fun c_11 => ?_)
      · refine lv_bipush (v := (-2)) hx hb dX11_flight_34 (by decide) ?_
        have hP9 := hP.sub (ws' := [(h0, .inr (11, [.ref tp, .ref rd, .ref se, .ref ba, .ref of, .ref pl, .ref sr, .ref sc, .int wk])), (pl, .inr (5, [.ref of, .ref k1, .ref k2, .ref k3, .ref k4, .int md, .int dn, .int fsu])), (of, .inr (2, [.ref g1, .ref g2, .ref g3, .ref g4, .ref g5, .int (nI on), .ref g6, .ref g7, .ref g8])), (g8, .inl (E.2.1 0, 100, .inl d8))]) [0, 1, 2, 3] rfl
        have hD9 := hD.sub (ws' := [(h0, .inr (11, [.ref tp, .ref rd, .ref se, .ref ba, .ref of, .ref pl, .ref sr, .ref sc, .int wk])), (pl, .inr (5, [.ref of, .ref k1, .ref k2, .ref k3, .ref k4, .int md, .int dn, .int fsu])), (of, .inr (2, [.ref g1, .ref g2, .ref g3, .ref g4, .ref g5, .int (nI on), .ref g6, .ref g7, .ref g8])), (g8, .inl (E.2.1 0, 100, .inl d8))]) [0, 1, 2, 3] (by decide) rfl
        exact W.iret (v := (-2)) hx hb hr (fun t ht hW => ⟨⟨(-2), (md, d8), rfl, Or.inr ⟨(by first | (rw [b_5, b_10, decide_eq_true c_11]; done) | (rw [b_5, b_10, decide_eq_true c_11]; rfl)), rfl, rfl⟩, by rw [ht]; exact hP9, hD9⟩, hS.F ht⟩) hS.2.2 dX11_flight_36
      · refine lv_iload_n hx hb dX11_flight_23 rfl (lv_at hl 3 rfl) ?_
        refine lv_iconst (v := (-1)) hx hb dX11_flight_24 (by decide) ?_
        refine lv_sipush (v := 10000) hx hb dX11_flight_25 (by decide) ?_
        have hPc := hP.sub (ws' := []) [] rfl
        have hDc := hD.sub (ws' := []) [] (by decide) rfl
        have hFc := va_free (wc := []) hD hS hA [] rfl
        refine va_calli (va_runS (As := [.int cost, .int (-1), .int 10000]) (rest := []) ⟨hx, hb, hml, hown, hts⟩ (c_X11_within l E cost (-1) 10000 H.size ) (va_cwS 3 hts gX11_flight_X11_within rfl rfl rfl hdS_X11_within ⟨Nat.le_of_ble_eq_true rfl, Nat.le_of_ble_eq_true rfl⟩) ⟨pcW_blind, (pcW_pre hPc hkn hDc hst hS hFc)⟩ rfl rfl hl.1 rfl (lv_room (Nat.le_of_ble_eq_true rfl)) dX11_flight_28 ⟨Nat.le_of_ble_eq_true rfl, Nat.le_of_ble_eq_true rfl⟩) hS (fun q _ h => hFc q h) hFc (fun r_12 u t H1 locs ht hvm hw_13 hB hz1 hk1 hS => ?_)
        obtain ⟨hP1, hD1⟩ := hB
        rw [ht] at hP1
        try dsimp only at hw_13
        obtain ⟨hP, hD⟩ := va_join (wr := [(h0, .inr (11, [.ref tp, .ref rd, .ref se, .ref ba, .ref of, .ref pl, .ref sr, .ref sc, .int wk])), (pl, .inr (5, [.ref of, .ref k1, .ref k2, .ref k3, .ref k4, .int md, .int dn, .int fsu])), (of, .inr (2, [.ref g1, .ref g2, .ref g3, .ref g4, .ref g5, .int (nI on), .ref g6, .ref g7, .ref g8])), (g8, .inl (E.2.1 0, 100, .inl d8))]) (w1 := []) hP hD [] [0, 1, 2, 3] rfl rfl (by decide) (by decide) hk1 hFc hP1 hD1
        generalize H1 = H at hP hS ⊢
        have hP : va_P E.1 vwCl [(h0, .inr (11, [.ref tp, .ref rd, .ref se, .ref ba, .ref of, .ref pl, .ref sr, .ref sc, .int wk])), (pl, .inr (5, [.ref of, .ref k1, .ref k2, .ref k3, .ref k4, .int md, .int dn, .int fsu])), (of, .inr (2, [.ref g1, .ref g2, .ref g3, .ref g4, .ref g5, .int (nI on), .ref g6, .ref g7, .ref g8])), (g8, .inl (E.2.1 0, 100, .inl d8))] H := hP
        have hD : va_D A [(h0, .inr (11, [.ref tp, .ref rd, .ref se, .ref ba, .ref of, .ref pl, .ref sr, .ref sc, .int wk])), (pl, .inr (5, [.ref of, .ref k1, .ref k2, .ref k3, .ref k4, .int md, .int dn, .int fsu])), (of, .inr (2, [.ref g1, .ref g2, .ref g3, .ref g4, .ref g5, .int (nI on), .ref g6, .ref g7, .ref g8])), (g8, .inl (E.2.1 0, 100, .inl d8))] := hD
        refine lv_if_ne (tgt := 37) hx hb dX11_flight_31 (by decide) (fun c_14 => ?_) (fun c_14 => ?_)
        · have b_15 : inR cost (-1) 10000 = true := bn hw_13 c_14
          refine lv_aload_n hx hb dX11_flight_37 rfl (lv_at hl 0 rfl) ?_
          refine va_get (D := E.1) (ci := 11) (v := .ref pl) (C := RX11) (T := TX11) (N := 9) hx hb hts inX11 hown hK hP 0 rfl rfl 5 (by decide) fl51 (fun _ h9 => h9) rfl dX11_flight_38 ?_
          refine lv_iconst (v := 0) hx hb dX11_flight_41 (by decide) ?_
          refine va_put (D := E.1) (ci := 5) (v := .int 0) (ty := .boolean) (C := RX5) (T := TX5) (N := 8) hx hb hts inX5 tyX5 tyX5_ok nmX5 hown hK hP hD hS 1 rfl rfl 5 (by decide) fl198 (fun _ h9 => h9) rfl (by decide +kernel) (by first | rfl | decide) (by first | rfl | decide) (Nat.le_of_ble_eq_true rfl) dX11_flight_42 (fun H locs hP hD hS => ?_)
          have hP : va_P E.1 vwCl [(h0, .inr (11, [.ref tp, .ref rd, .ref se, .ref ba, .ref of, .ref pl, .ref sr, .ref sc, .int wk])), (pl, .inr (5, [.ref of, .ref k1, .ref k2, .ref k3, .ref k4, .int 0, .int dn, .int fsu])), (of, .inr (2, [.ref g1, .ref g2, .ref g3, .ref g4, .ref g5, .int (nI on), .ref g6, .ref g7, .ref g8])), (g8, .inl (E.2.1 0, 100, .inl d8))] H := hP
          have hD : va_D A [(h0, .inr (11, [.ref tp, .ref rd, .ref se, .ref ba, .ref of, .ref pl, .ref sr, .ref sc, .int wk])), (pl, .inr (5, [.ref of, .ref k1, .ref k2, .ref k3, .ref k4, .int 0, .int dn, .int fsu])), (of, .inr (2, [.ref g1, .ref g2, .ref g3, .ref g4, .ref g5, .int (nI on), .ref g6, .ref g7, .ref g8])), (g8, .inl (E.2.1 0, 100, .inl d8))] := hD
          refine lv_aload_n hx hb dX11_flight_45 rfl (lv_at hl 0 rfl) ?_
          refine va_get (D := E.1) (ci := 11) (v := .ref of) (C := RX11) (T := TX11) (N := 9) hx hb hts inX11 hown hK hP 0 rfl rfl 4 (by decide) fl42 (fun _ h9 => h9) rfl dX11_flight_46 ?_
          refine va_get (D := E.1) (ci := 2) (v := .ref g8) (C := RX2) (T := TX2) (N := 9) hx hb hts inX2 hown hK hP 2 rfl rfl 8 (by decide) fl212 (fun _ h9 => h9) rfl dX11_flight_49 ?_
          refine lv_iload_n hx hb dX11_flight_52 rfl (lv_at hl 1 rfl) ?_
          refine lv_bipush (v := 10) hx hb dX11_flight_53 (by decide) ?_
          refine lv_imul hx hb dX11_flight_55 ?_
          refine lv_topi (fun x_16 ex_16 => ?_)
          refine lv_iload_n hx hb dX11_flight_56 rfl (lv_at hl 2 rfl) ?_
          refine lv_iadd hx hb dX11_flight_57 ?_
          refine lv_topi (fun x_17 ex_17 => ?_)
          have hi_18 : vp_in x_17 100 := by rw [ex_17, ex_16]; exact ixA b_5 (a := 9) (by decide) b_10 (b := 9) (by decide) (M := 10) rfl (by decide) (by decide)
          refine va_iald hx hb hK hP 3 0 rfl rfl hi_18 dX11_flight_58 ?_
          refine lv_topi (fun x_19 ex_19 => ?_)
          refine lv_istore (lv' := [(4, .int x_19), (0, .ref h0), (1, .int pp), (2, .int qq), (3, .int cost)]) hx hb dX11_flight_59 hl (by decide) rfl (fun ls hl => ?_)
          refine lv_aload_n hx hb dX11_flight_61 rfl (lv_at hl 1 rfl) ?_
          refine va_get (D := E.1) (ci := 11) (v := .ref of) (C := RX11) (T := TX11) (N := 9) hx hb hts inX11 hown hK hP 0 rfl rfl 4 (by decide) fl42 (fun _ h9 => h9) rfl dX11_flight_62 ?_
          refine va_get (D := E.1) (ci := 2) (v := .ref g8) (C := RX2) (T := TX2) (N := 9) hx hb hts inX2 hown hK hP 2 rfl rfl 8 (by decide) fl212 (fun _ h9 => h9) rfl dX11_flight_65 ?_
          refine lv_iload_n hx hb dX11_flight_68 rfl (lv_at hl 2 rfl) ?_
          refine lv_bipush (v := 10) hx hb dX11_flight_69 (by decide) ?_
          refine lv_imul hx hb dX11_flight_71 ?_
          refine lv_topi (fun x_20 ex_20 => ?_)
          refine lv_iload_n hx hb dX11_flight_72 rfl (lv_at hl 3 rfl) ?_
          refine lv_iadd hx hb dX11_flight_73 ?_
          refine lv_topi (fun x_21 ex_21 => ?_)
          refine lv_iload_n hx hb dX11_flight_74 rfl (lv_at hl 4 rfl) ?_
          have hi_22 : vp_in x_21 100 := by rw [ex_21, ex_20]; exact ixA b_5 (a := 9) (by decide) b_10 (b := 9) (by decide) (M := 10) rfl (by decide) (by decide)
          refine va_iast hx hb hK hP hD hS 3 0 rfl rfl hi_22 dX11_flight_75 (fun H locs hP hD hS => ?_)
          have hP : va_P E.1 vwCl [(h0, .inr (11, [.ref tp, .ref rd, .ref se, .ref ba, .ref of, .ref pl, .ref sr, .ref sc, .int wk])), (pl, .inr (5, [.ref of, .ref k1, .ref k2, .ref k3, .ref k4, .int 0, .int dn, .int fsu])), (of, .inr (2, [.ref g1, .ref g2, .ref g3, .ref g4, .ref g5, .int (nI on), .ref g6, .ref g7, .ref g8])), (g8, .inl (E.2.1 0, 100, .inl (upd d8 x_21.toNatClampNeg cost)))] H := hP
          have hD : va_D A [(h0, .inr (11, [.ref tp, .ref rd, .ref se, .ref ba, .ref of, .ref pl, .ref sr, .ref sc, .int wk])), (pl, .inr (5, [.ref of, .ref k1, .ref k2, .ref k3, .ref k4, .int 0, .int dn, .int fsu])), (of, .inr (2, [.ref g1, .ref g2, .ref g3, .ref g4, .ref g5, .int (nI on), .ref g6, .ref g7, .ref g8])), (g8, .inl (E.2.1 0, 100, .inl (upd d8 x_21.toNatClampNeg cost)))] := hD
          obtain ⟨f_23, ef_23⟩ : ∃ g : Nat → Int32, g = upd d8 x_21.toNatClampNeg cost := ⟨_, rfl⟩
          rw [← ef_23] at hP hD
          refine lv_aload_n hx hb dX11_flight_76 rfl (lv_at hl 1 rfl) ?_
          refine va_get (D := E.1) (ci := 11) (v := .ref of) (C := RX11) (T := TX11) (N := 9) hx hb hts inX11 hown hK hP 0 rfl rfl 4 (by decide) fl42 (fun _ h9 => h9) rfl dX11_flight_77 ?_
          refine va_get (D := E.1) (ci := 2) (v := .ref g8) (C := RX2) (T := TX2) (N := 9) hx hb hts inX2 hown hK hP 2 rfl rfl 8 (by decide) fl212 (fun _ h9 => h9) rfl dX11_flight_80 ?_
          refine lv_iload_n hx hb dX11_flight_83 rfl (lv_at hl 3 rfl) ?_
          refine lv_bipush (v := 10) hx hb dX11_flight_84 (by decide) ?_
          refine lv_imul hx hb dX11_flight_86 ?_
          refine lv_topi (fun x_24 ex_24 => ?_)
          refine lv_iload_n hx hb dX11_flight_87 rfl (lv_at hl 2 rfl) ?_
          refine lv_iadd hx hb dX11_flight_88 ?_
          refine lv_topi (fun x_25 ex_25 => ?_)
          refine lv_iload_n hx hb dX11_flight_89 rfl (lv_at hl 4 rfl) ?_
          have hi_26 : vp_in x_25 100 := by rw [ex_25, ex_24]; exact ixA b_10 (a := 9) (by decide) b_5 (b := 9) (by decide) (M := 10) rfl (by decide) (by decide)
          refine va_iast hx hb hK hP hD hS 3 0 rfl rfl hi_26 dX11_flight_90 (fun H locs hP hD hS => ?_)
          have hP : va_P E.1 vwCl [(h0, .inr (11, [.ref tp, .ref rd, .ref se, .ref ba, .ref of, .ref pl, .ref sr, .ref sc, .int wk])), (pl, .inr (5, [.ref of, .ref k1, .ref k2, .ref k3, .ref k4, .int 0, .int dn, .int fsu])), (of, .inr (2, [.ref g1, .ref g2, .ref g3, .ref g4, .ref g5, .int (nI on), .ref g6, .ref g7, .ref g8])), (g8, .inl (E.2.1 0, 100, .inl (upd f_23 x_25.toNatClampNeg cost)))] H := hP
          have hD : va_D A [(h0, .inr (11, [.ref tp, .ref rd, .ref se, .ref ba, .ref of, .ref pl, .ref sr, .ref sc, .int wk])), (pl, .inr (5, [.ref of, .ref k1, .ref k2, .ref k3, .ref k4, .int 0, .int dn, .int fsu])), (of, .inr (2, [.ref g1, .ref g2, .ref g3, .ref g4, .ref g5, .int (nI on), .ref g6, .ref g7, .ref g8])), (g8, .inl (E.2.1 0, 100, .inl (upd f_23 x_25.toNatClampNeg cost)))] := hD
          obtain ⟨f_27, ef_27⟩ : ∃ g : Nat → Int32, g = upd f_23 x_25.toNatClampNeg cost := ⟨_, rfl⟩
          rw [← ef_27] at hP hD
          refine lv_iload hx hb dX11_flight_91 (lv_at hl 0 rfl) ?_
          have hP9 := hP.sub (ws' := [(h0, .inr (11, [.ref tp, .ref rd, .ref se, .ref ba, .ref of, .ref pl, .ref sr, .ref sc, .int wk])), (pl, .inr (5, [.ref of, .ref k1, .ref k2, .ref k3, .ref k4, .int 0, .int dn, .int fsu])), (of, .inr (2, [.ref g1, .ref g2, .ref g3, .ref g4, .ref g5, .int (nI on), .ref g6, .ref g7, .ref g8])), (g8, .inl (E.2.1 0, 100, .inl f_27))]) [0, 1, 2, 3] rfl
          have hD9 := hD.sub (ws' := [(h0, .inr (11, [.ref tp, .ref rd, .ref se, .ref ba, .ref of, .ref pl, .ref sr, .ref sc, .int wk])), (pl, .inr (5, [.ref of, .ref k1, .ref k2, .ref k3, .ref k4, .int 0, .int dn, .int fsu])), (of, .inr (2, [.ref g1, .ref g2, .ref g3, .ref g4, .ref g5, .int (nI on), .ref g6, .ref g7, .ref g8])), (g8, .inl (E.2.1 0, 100, .inl f_27))]) [0, 1, 2, 3] (by decide) rfl
          exact W.iret (v := x_19) hx hb hr (fun t ht hW => ⟨⟨x_19, (0, f_27), rfl, Or.inl ⟨(by first | (rw [b_5, b_10, b_15, decide_eq_false c_11]; done) | (rw [b_5, b_10, b_15, decide_eq_false c_11]; rfl)), by rw [ex_19, ex_17, ex_16], by rw [ef_27, ef_23, ex_21, ex_20, ex_25, ex_24]⟩, by rw [ht]; exact hP9, hD9⟩, hS.F ht⟩) hS.2.2 dX11_flight_93
        · have b_28 : inR cost (-1) 10000 = false := bz hw_13 c_14
          refine lv_bipush (v := (-2)) hx hb dX11_flight_34 (by decide) ?_
          have hP9 := hP.sub (ws' := [(h0, .inr (11, [.ref tp, .ref rd, .ref se, .ref ba, .ref of, .ref pl, .ref sr, .ref sc, .int wk])), (pl, .inr (5, [.ref of, .ref k1, .ref k2, .ref k3, .ref k4, .int md, .int dn, .int fsu])), (of, .inr (2, [.ref g1, .ref g2, .ref g3, .ref g4, .ref g5, .int (nI on), .ref g6, .ref g7, .ref g8])), (g8, .inl (E.2.1 0, 100, .inl d8))]) [0, 1, 2, 3] rfl
          have hD9 := hD.sub (ws' := [(h0, .inr (11, [.ref tp, .ref rd, .ref se, .ref ba, .ref of, .ref pl, .ref sr, .ref sc, .int wk])), (pl, .inr (5, [.ref of, .ref k1, .ref k2, .ref k3, .ref k4, .int md, .int dn, .int fsu])), (of, .inr (2, [.ref g1, .ref g2, .ref g3, .ref g4, .ref g5, .int (nI on), .ref g6, .ref g7, .ref g8])), (g8, .inl (E.2.1 0, 100, .inl d8))]) [0, 1, 2, 3] (by decide) rfl
          exact W.iret (v := (-2)) hx hb hr (fun t ht hW => ⟨⟨(-2), (md, d8), rfl, Or.inr ⟨(by first | (rw [b_5, b_10, b_28, decide_eq_false c_11]; done) | (rw [b_5, b_10, b_28, decide_eq_false c_11]; rfl)), rfl, rfl⟩, by rw [ht]; exact hP9, hD9⟩, hS.F ht⟩) hS.2.2 dX11_flight_36
