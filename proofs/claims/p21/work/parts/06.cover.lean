set_option maxHeartbeats 4000000 in
set_option maxRecDepth 100000 in
theorem c_X1_clear (l : Launch) (E : vE) (h0 : Nat) (bx : Nat) (bn : Nat) (lc : Int32) (mf : Int32) (li : Int32) (fx : Nat → Int32) (sz : Nat) : Met l yX1_clear wsX1_clear ({ frames := 0, cells := 0, slots := 0, locals := 0 }) (pcW E [.ref h0] sz [(h0, .inr (1, [.ref bx, .int (nI bn), .int lc, .int mf, .int li])), (bx, .inl (E.2.1 0, 72, .inl fx))]) (va_Qv (fun (_ : Unit) => True) (fun (_ : Unit) (t : State) => wB E (va_A [(h0, .inr (1, [.ref bx, .int (nI bn), .int lc, .int mf, .int li])), (bx, .inl (E.2.1 0, 72, .inl fx))] sz) [(h0, .inr (1, [.ref bx, .int 0, .int (-1), .int (-1), .int 0])), (bx, .inl (E.2.1 0, 72, .inl fx))] t) (va_A [(h0, .inr (1, [.ref bx, .int (nI bn), .int lc, .int mf, .int li])), (bx, .inl (E.2.1 0, 72, .inl fx))] sz)) 0 0 (va_A [(h0, .inr (1, [.ref bx, .int (nI bn), .int lc, .int mf, .int li])), (bx, .inl (E.2.1 0, 72, .inl fx))] sz) := by
  refine Met.ofW (cc := cX1_clear) (maxL := 1) (ret := none) (by decide) rfl ?_
  intro p e s m args below meth c s₁ B hml hv
  obtain ⟨rfl, hsz, hP, hkn, hD0, hst⟩ := hv
  have hx := B.exec
  have hb := B.bytes
  have hr := B.returns
  have hts := atoms_spec (ws := wsX1_clear) B.pre
  have hown : s.vm.findClass RX1 = some m.cls := findClass_of_methodNamed B.named
  have hlocks := B.notSynchronized
  subst hsz
  have hD := hD0.self (sz := s.heap.size)
  have hK := hkn.1
  have hAO := hkn.2.2.1
  generalize hAe : va_A [(h0, .inr (1, [.ref bx, .int (nI bn), .int lc, .int mf, .int li])), (bx, .inl (E.2.1 0, 72, .inl fx))] s.heap.size = A at hD hst ⊢
  have hA : ∀ q : Nat, s.heap.size ≤ q → A q := fun q h => by rw [← hAe]; exact Or.inr h
  have hS : va_S A s.heap s.heap [] := va_S.rf
  have hP : va_P E.1 vwCl [(h0, .inr (1, [.ref bx, .int (nI bn), .int lc, .int mf, .int li])), (bx, .inl (E.2.1 0, 72, .inl fx))] s.heap := hP
  have hl := lv_entry ([.ref h0]) (n := 1) (Nat.le_of_ble_eq_true rfl)
  rw [lg_entry_eq]
  generalize (lg_sl ([.ref h0]) ++ List.replicate (1 - (lg_sl ([.ref h0])).length) Slot.unset).toArray = ls at hl ⊢
  have hl : lv_has ls 1 [(0, .ref h0)] := hl
  have fl15 := hts (.fieldLink RX1 15 "BoatsHome$Cover" "boxCount" "I") (by first | exact List.mem_of_getElem? (i := 1) rfl | decide +kernel)
  have fl19 := hts (.fieldLink RX1 19 "BoatsHome$Cover" "leastCrew" "I") (by first | exact List.mem_of_getElem? (i := 2) rfl | decide +kernel)
  have fl22 := hts (.fieldLink RX1 22 "BoatsHome$Cover" "mostForce" "I") (by first | exact List.mem_of_getElem? (i := 3) rfl | decide +kernel)
  have fl25 := hts (.fieldLink RX1 25 "BoatsHome$Cover" "lines" "I") (by first | exact List.mem_of_getElem? (i := 4) rfl | decide +kernel)
  have inX1 : ∀ w ∈ u_ws RX1 TX1 5, w ∈ wsX1_clear := by first | exact fun w h9 => (List.mem_cons_of_mem _ (List.mem_append_right _ h9)) | decide +kernel
  refine lv_aload_n hx hb dX1_clear_0 rfl (lv_at hl 0 rfl) ?_
  refine lv_iconst (v := 0) hx hb dX1_clear_1 (by decide) ?_
  refine va_put (D := E.1) (ci := 1) (v := .int 0) (ty := .int) (C := RX1) (T := TX1) (N := 5) hx hb hts inX1 tyX1 tyX1_ok nmX1 hown hK hP hD hS 0 rfl rfl 1 (by decide) fl15 (fun _ h9 => h9) rfl (by decide +kernel) rfl rfl (Nat.le_of_ble_eq_true rfl) dX1_clear_2 (fun H locs hP hD hS => ?_)
  have hP : va_P E.1 vwCl [(h0, .inr (1, [.ref bx, .int 0, .int lc, .int mf, .int li])), (bx, .inl (E.2.1 0, 72, .inl fx))] H := hP
  have hD : va_D A [(h0, .inr (1, [.ref bx, .int 0, .int lc, .int mf, .int li])), (bx, .inl (E.2.1 0, 72, .inl fx))] := hD
  refine lv_aload_n hx hb dX1_clear_5 rfl (lv_at hl 0 rfl) ?_
  refine lv_iconst (v := (-1)) hx hb dX1_clear_6 (by decide) ?_
  refine va_put (D := E.1) (ci := 1) (v := .int (-1)) (ty := .int) (C := RX1) (T := TX1) (N := 5) hx hb hts inX1 tyX1 tyX1_ok nmX1 hown hK hP hD hS 0 rfl rfl 2 (by decide) fl19 (fun _ h9 => h9) rfl (by decide +kernel) rfl rfl (Nat.le_of_ble_eq_true rfl) dX1_clear_7 (fun H locs hP hD hS => ?_)
  have hP : va_P E.1 vwCl [(h0, .inr (1, [.ref bx, .int 0, .int (-1), .int mf, .int li])), (bx, .inl (E.2.1 0, 72, .inl fx))] H := hP
  have hD : va_D A [(h0, .inr (1, [.ref bx, .int 0, .int (-1), .int mf, .int li])), (bx, .inl (E.2.1 0, 72, .inl fx))] := hD
  refine lv_aload_n hx hb dX1_clear_10 rfl (lv_at hl 0 rfl) ?_
  refine lv_iconst (v := (-1)) hx hb dX1_clear_11 (by decide) ?_
  refine va_put (D := E.1) (ci := 1) (v := .int (-1)) (ty := .int) (C := RX1) (T := TX1) (N := 5) hx hb hts inX1 tyX1 tyX1_ok nmX1 hown hK hP hD hS 0 rfl rfl 3 (by decide) fl22 (fun _ h9 => h9) rfl (by decide +kernel) rfl rfl (Nat.le_of_ble_eq_true rfl) dX1_clear_12 (fun H locs hP hD hS => ?_)
  have hP : va_P E.1 vwCl [(h0, .inr (1, [.ref bx, .int 0, .int (-1), .int (-1), .int li])), (bx, .inl (E.2.1 0, 72, .inl fx))] H := hP
  have hD : va_D A [(h0, .inr (1, [.ref bx, .int 0, .int (-1), .int (-1), .int li])), (bx, .inl (E.2.1 0, 72, .inl fx))] := hD
  refine lv_aload_n hx hb dX1_clear_15 rfl (lv_at hl 0 rfl) ?_
  refine lv_iconst (v := 0) hx hb dX1_clear_16 (by decide) ?_
  refine va_put (D := E.1) (ci := 1) (v := .int 0) (ty := .int) (C := RX1) (T := TX1) (N := 5) hx hb hts inX1 tyX1 tyX1_ok nmX1 hown hK hP hD hS 0 rfl rfl 4 (by decide) fl25 (fun _ h9 => h9) rfl (by decide +kernel) rfl rfl (Nat.le_of_ble_eq_true rfl) dX1_clear_17 (fun H locs hP hD hS => ?_)
  have hP : va_P E.1 vwCl [(h0, .inr (1, [.ref bx, .int 0, .int (-1), .int (-1), .int 0])), (bx, .inl (E.2.1 0, 72, .inl fx))] H := hP
  have hD : va_D A [(h0, .inr (1, [.ref bx, .int 0, .int (-1), .int (-1), .int 0])), (bx, .inl (E.2.1 0, 72, .inl fx))] := hD
  have hP9 := hP.sub (ws' := [(h0, .inr (1, [.ref bx, .int 0, .int (-1), .int (-1), .int 0])), (bx, .inl (E.2.1 0, 72, .inl fx))]) [0, 1] rfl
  have hD9 := hD.sub (ws' := [(h0, .inr (1, [.ref bx, .int 0, .int (-1), .int (-1), .int 0])), (bx, .inl (E.2.1 0, 72, .inl fx))]) [0, 1] (by decide) rfl
  exact W.vret hx hb hr (fun t ht hW => ⟨⟨(), rfl, trivial, by rw [ht]; exact hP9, hD9⟩, hS.F ht⟩) hS.2.2 dX1_clear_20
set_option maxHeartbeats 4000000 in
set_option maxRecDepth 100000 in
theorem c_X1_fillUntold (l : Launch) (E : vE) (h0 : Nat) (bx : Nat) (bn : Nat) (lc : Int32) (mf : Int32) (li : Int32) (fx : Nat → Int32) (sz : Nat) : Met l yX1_fillUntold wsX1_fillUntold ({ frames := 0, cells := 0, slots := 0, locals := 0 }) (pcW E [.ref h0] sz [(h0, .inr (1, [.ref bx, .int (nI bn), .int lc, .int mf, .int li])), (bx, .inl (E.2.1 0, 72, .inl fx))]) (va_Qv (fun (u : Int32 × Int32) => match u with | (lc2, mf2) => True) (fun (u : Int32 × Int32) (t : State) => match u with | (lc2, mf2) => wB E (va_A [(h0, .inr (1, [.ref bx, .int (nI bn), .int lc, .int mf, .int li])), (bx, .inl (E.2.1 0, 72, .inl fx))] sz) [(h0, .inr (1, [.ref bx, .int (nI bn), .int lc2, .int mf2, .int li])), (bx, .inl (E.2.1 0, 72, .inl fx))] t) (va_A [(h0, .inr (1, [.ref bx, .int (nI bn), .int lc, .int mf, .int li])), (bx, .inl (E.2.1 0, 72, .inl fx))] sz)) 0 0 (va_A [(h0, .inr (1, [.ref bx, .int (nI bn), .int lc, .int mf, .int li])), (bx, .inl (E.2.1 0, 72, .inl fx))] sz) := by
  refine Met.ofW (cc := cX1_fillUntold) (maxL := 1) (ret := none) (by decide) rfl ?_
  intro p e s m args below meth c s₁ B hml hv
  obtain ⟨rfl, hsz, hP, hkn, hD0, hst⟩ := hv
  have hx := B.exec
  have hb := B.bytes
  have hr := B.returns
  have hts := atoms_spec (ws := wsX1_fillUntold) B.pre
  have hown : s.vm.findClass RX1 = some m.cls := findClass_of_methodNamed B.named
  have hlocks := B.notSynchronized
  subst hsz
  have hD := hD0.self (sz := s.heap.size)
  have hK := hkn.1
  have hAO := hkn.2.2.1
  generalize hAe : va_A [(h0, .inr (1, [.ref bx, .int (nI bn), .int lc, .int mf, .int li])), (bx, .inl (E.2.1 0, 72, .inl fx))] s.heap.size = A at hD hst ⊢
  have hA : ∀ q : Nat, s.heap.size ≤ q → A q := fun q h => by rw [← hAe]; exact Or.inr h
  have hS : va_S A s.heap s.heap [] := va_S.rf
  have hP : va_P E.1 vwCl [(h0, .inr (1, [.ref bx, .int (nI bn), .int lc, .int mf, .int li])), (bx, .inl (E.2.1 0, 72, .inl fx))] s.heap := hP
  have hl := lv_entry ([.ref h0]) (n := 1) (Nat.le_of_ble_eq_true rfl)
  rw [lg_entry_eq]
  generalize (lg_sl ([.ref h0]) ++ List.replicate (1 - (lg_sl ([.ref h0])).length) Slot.unset).toArray = ls at hl ⊢
  have hl : lv_has ls 1 [(0, .ref h0)] := hl
  have fl19 := hts (.fieldLink RX1 19 "BoatsHome$Cover" "leastCrew" "I") (by first | exact List.mem_of_getElem? (i := 1) rfl | decide +kernel)
  have fl22 := hts (.fieldLink RX1 22 "BoatsHome$Cover" "mostForce" "I") (by first | exact List.mem_of_getElem? (i := 2) rfl | decide +kernel)
  have inX1 : ∀ w ∈ u_ws RX1 TX1 5, w ∈ wsX1_fillUntold := by first | exact fun w h9 => (List.mem_cons_of_mem _ (List.mem_append_right _ h9)) | decide +kernel
  refine lv_aload_n hx hb dX1_fillUntold_0 rfl (lv_at hl 0 rfl) ?_
  refine lv_aload_n hx hb dX1_fillUntold_1 rfl (lv_at hl 0 rfl) ?_
  refine va_get (D := E.1) (ci := 1) (v := .int lc) (C := RX1) (T := TX1) (N := 5) hx hb hts inX1 hown hK hP 0 rfl rfl 2 (by decide) fl19 (fun _ h9 => h9) rfl dX1_fillUntold_2 ?_
  refine lv_iconst (v := (-1)) hx hb dX1_fillUntold_5 (by decide) ?_
  refine lv_icmp_ne (tgt := 13) hx hb dX1_fillUntold_6 (by decide) (fun c_1 => ?_) (fun c_1 => ?_)
  · refine lv_aload_n hx hb dX1_fillUntold_13 rfl (lv_at hl 0 rfl) ?_
    refine va_get (D := E.1) (ci := 1) (v := .int lc) (C := RX1) (T := TX1) (N := 5) hx hb hts inX1 hown hK hP 0 rfl rfl 2 (by decide) fl19 (fun _ h9 => h9) rfl dX1_fillUntold_14 ?_
    refine va_put (D := E.1) (ci := 1) (v := .int lc) (ty := .int) (C := RX1) (T := TX1) (N := 5) hx hb hts inX1 tyX1 tyX1_ok nmX1 hown hK hP hD hS 0 rfl rfl 2 (by decide) fl19 (fun _ h9 => h9) rfl (by decide +kernel) rfl rfl (Nat.le_of_ble_eq_true rfl) dX1_fillUntold_17 (fun H locs hP hD hS => ?_)
    have hP : va_P E.1 vwCl [(h0, .inr (1, [.ref bx, .int (nI bn), .int lc, .int mf, .int li])), (bx, .inl (E.2.1 0, 72, .inl fx))] H := hP
    have hD : va_D A [(h0, .inr (1, [.ref bx, .int (nI bn), .int lc, .int mf, .int li])), (bx, .inl (E.2.1 0, 72, .inl fx))] := hD
    refine lv_aload_n hx hb dX1_fillUntold_20 rfl (lv_at hl 0 rfl) ?_
    refine lv_aload_n hx hb dX1_fillUntold_21 rfl (lv_at hl 0 rfl) ?_
    refine va_get (D := E.1) (ci := 1) (v := .int mf) (C := RX1) (T := TX1) (N := 5) hx hb hts inX1 hown hK hP 0 rfl rfl 3 (by decide) fl22 (fun _ h9 => h9) rfl dX1_fillUntold_22 ?_
    refine lv_iconst (v := (-1)) hx hb dX1_fillUntold_25 (by decide) ?_
    refine lv_icmp_ne (tgt := 34) hx hb dX1_fillUntold_26 (by decide) (fun c_2 => ?_) (fun c_2 => ?_)
    · refine lv_aload_n hx hb dX1_fillUntold_34 rfl (lv_at hl 0 rfl) ?_
      refine va_get (D := E.1) (ci := 1) (v := .int mf) (C := RX1) (T := TX1) (N := 5) hx hb hts inX1 hown hK hP 0 rfl rfl 3 (by decide) fl22 (fun _ h9 => h9) rfl dX1_fillUntold_35 ?_
      refine va_put (D := E.1) (ci := 1) (v := .int mf) (ty := .int) (C := RX1) (T := TX1) (N := 5) hx hb hts inX1 tyX1 tyX1_ok nmX1 hown hK hP hD hS 0 rfl rfl 3 (by decide) fl22 (fun _ h9 => h9) rfl (by decide +kernel) rfl rfl (Nat.le_of_ble_eq_true rfl) dX1_fillUntold_38 (fun H locs hP hD hS => ?_)
      have hP : va_P E.1 vwCl [(h0, .inr (1, [.ref bx, .int (nI bn), .int lc, .int mf, .int li])), (bx, .inl (E.2.1 0, 72, .inl fx))] H := hP
      have hD : va_D A [(h0, .inr (1, [.ref bx, .int (nI bn), .int lc, .int mf, .int li])), (bx, .inl (E.2.1 0, 72, .inl fx))] := hD
      have hP9 := hP.sub (ws' := [(h0, .inr (1, [.ref bx, .int (nI bn), .int lc, .int mf, .int li])), (bx, .inl (E.2.1 0, 72, .inl fx))]) [0, 1] rfl
      have hD9 := hD.sub (ws' := [(h0, .inr (1, [.ref bx, .int (nI bn), .int lc, .int mf, .int li])), (bx, .inl (E.2.1 0, 72, .inl fx))]) [0, 1] (by decide) rfl
      exact W.vret hx hb hr (fun t ht hW => ⟨⟨(lc, mf), rfl, trivial, by rw [ht]; exact hP9, hD9⟩, hS.F ht⟩) hS.2.2 dX1_fillUntold_41
    · refine lv_bipush (v := 9) hx hb dX1_fillUntold_29 (by decide) ?_
      refine lv_goto (tgt := 38) hx hb dX1_fillUntold_31 (by decide) ?_
      refine va_put (D := E.1) (ci := 1) (v := .int 9) (ty := .int) (C := RX1) (T := TX1) (N := 5) hx hb hts inX1 tyX1 tyX1_ok nmX1 hown hK hP hD hS 0 rfl rfl 3 (by decide) fl22 (fun _ h9 => h9) rfl (by decide +kernel) rfl rfl (Nat.le_of_ble_eq_true rfl) dX1_fillUntold_38 (fun H locs hP hD hS => ?_)
      have hP : va_P E.1 vwCl [(h0, .inr (1, [.ref bx, .int (nI bn), .int lc, .int 9, .int li])), (bx, .inl (E.2.1 0, 72, .inl fx))] H := hP
      have hD : va_D A [(h0, .inr (1, [.ref bx, .int (nI bn), .int lc, .int 9, .int li])), (bx, .inl (E.2.1 0, 72, .inl fx))] := hD
      have hP9 := hP.sub (ws' := [(h0, .inr (1, [.ref bx, .int (nI bn), .int lc, .int 9, .int li])), (bx, .inl (E.2.1 0, 72, .inl fx))]) [0, 1] rfl
      have hD9 := hD.sub (ws' := [(h0, .inr (1, [.ref bx, .int (nI bn), .int lc, .int 9, .int li])), (bx, .inl (E.2.1 0, 72, .inl fx))]) [0, 1] (by decide) rfl
      exact W.vret hx hb hr (fun t ht hW => ⟨⟨(lc, 9), rfl, trivial, by rw [ht]; exact hP9, hD9⟩, hS.F ht⟩) hS.2.2 dX1_fillUntold_41
  · refine lv_iconst (v := 0) hx hb dX1_fillUntold_9 (by decide) ?_
    refine lv_goto (tgt := 17) hx hb dX1_fillUntold_10 (by decide) ?_
    refine va_put (D := E.1) (ci := 1) (v := .int 0) (ty := .int) (C := RX1) (T := TX1) (N := 5) hx hb hts inX1 tyX1 tyX1_ok nmX1 hown hK hP hD hS 0 rfl rfl 2 (by decide) fl19 (fun _ h9 => h9) rfl (by decide +kernel) rfl rfl (Nat.le_of_ble_eq_true rfl) dX1_fillUntold_17 (fun H locs hP hD hS => ?_)
    have hP : va_P E.1 vwCl [(h0, .inr (1, [.ref bx, .int (nI bn), .int 0, .int mf, .int li])), (bx, .inl (E.2.1 0, 72, .inl fx))] H := hP
    have hD : va_D A [(h0, .inr (1, [.ref bx, .int (nI bn), .int 0, .int mf, .int li])), (bx, .inl (E.2.1 0, 72, .inl fx))] := hD
    refine lv_aload_n hx hb dX1_fillUntold_20 rfl (lv_at hl 0 rfl) ?_
    refine lv_aload_n hx hb dX1_fillUntold_21 rfl (lv_at hl 0 rfl) ?_
    refine va_get (D := E.1) (ci := 1) (v := .int mf) (C := RX1) (T := TX1) (N := 5) hx hb hts inX1 hown hK hP 0 rfl rfl 3 (by decide) fl22 (fun _ h9 => h9) rfl dX1_fillUntold_22 ?_
    refine lv_iconst (v := (-1)) hx hb dX1_fillUntold_25 (by decide) ?_
    refine lv_icmp_ne (tgt := 34) hx hb dX1_fillUntold_26 (by decide) (fun c_3 => ?_) (fun c_3 => ?_)
    · refine lv_aload_n hx hb dX1_fillUntold_34 rfl (lv_at hl 0 rfl) ?_
      refine va_get (D := E.1) (ci := 1) (v := .int mf) (C := RX1) (T := TX1) (N := 5) hx hb hts inX1 hown hK hP 0 rfl rfl 3 (by decide) fl22 (fun _ h9 => h9) rfl dX1_fillUntold_35 ?_
      refine va_put (D := E.1) (ci := 1) (v := .int mf) (ty := .int) (C := RX1) (T := TX1) (N := 5) hx hb hts inX1 tyX1 tyX1_ok nmX1 hown hK hP hD hS 0 rfl rfl 3 (by decide) fl22 (fun _ h9 => h9) rfl (by decide +kernel) rfl rfl (Nat.le_of_ble_eq_true rfl) dX1_fillUntold_38 (fun H locs hP hD hS => ?_)
      have hP : va_P E.1 vwCl [(h0, .inr (1, [.ref bx, .int (nI bn), .int 0, .int mf, .int li])), (bx, .inl (E.2.1 0, 72, .inl fx))] H := hP
      have hD : va_D A [(h0, .inr (1, [.ref bx, .int (nI bn), .int 0, .int mf, .int li])), (bx, .inl (E.2.1 0, 72, .inl fx))] := hD
      have hP9 := hP.sub (ws' := [(h0, .inr (1, [.ref bx, .int (nI bn), .int 0, .int mf, .int li])), (bx, .inl (E.2.1 0, 72, .inl fx))]) [0, 1] rfl
      have hD9 := hD.sub (ws' := [(h0, .inr (1, [.ref bx, .int (nI bn), .int 0, .int mf, .int li])), (bx, .inl (E.2.1 0, 72, .inl fx))]) [0, 1] (by decide) rfl
      exact W.vret hx hb hr (fun t ht hW => ⟨⟨(0, mf), rfl, trivial, by rw [ht]; exact hP9, hD9⟩, hS.F ht⟩) hS.2.2 dX1_fillUntold_41
    · refine lv_bipush (v := 9) hx hb dX1_fillUntold_29 (by decide) ?_
      refine lv_goto (tgt := 38) hx hb dX1_fillUntold_31 (by decide) ?_
      refine va_put (D := E.1) (ci := 1) (v := .int 9) (ty := .int) (C := RX1) (T := TX1) (N := 5) hx hb hts inX1 tyX1 tyX1_ok nmX1 hown hK hP hD hS 0 rfl rfl 3 (by decide) fl22 (fun _ h9 => h9) rfl (by decide +kernel) rfl rfl (Nat.le_of_ble_eq_true rfl) dX1_fillUntold_38 (fun H locs hP hD hS => ?_)
      have hP : va_P E.1 vwCl [(h0, .inr (1, [.ref bx, .int (nI bn), .int 0, .int 9, .int li])), (bx, .inl (E.2.1 0, 72, .inl fx))] H := hP
      have hD : va_D A [(h0, .inr (1, [.ref bx, .int (nI bn), .int 0, .int 9, .int li])), (bx, .inl (E.2.1 0, 72, .inl fx))] := hD
      have hP9 := hP.sub (ws' := [(h0, .inr (1, [.ref bx, .int (nI bn), .int 0, .int 9, .int li])), (bx, .inl (E.2.1 0, 72, .inl fx))]) [0, 1] rfl
      have hD9 := hD.sub (ws' := [(h0, .inr (1, [.ref bx, .int (nI bn), .int 0, .int 9, .int li])), (bx, .inl (E.2.1 0, 72, .inl fx))]) [0, 1] (by decide) rfl
      exact W.vret hx hb hr (fun t ht hW => ⟨⟨(0, 9), rfl, trivial, by rw [ht]; exact hP9, hD9⟩, hS.F ht⟩) hS.2.2 dX1_fillUntold_41
set_option maxHeartbeats 4000000 in
set_option maxRecDepth 100000 in
theorem c_X6_readBox (l : Launch) (E : vE) (h0 : Nat) (tk : Nat) (tp : Nat) (by_ : Nat) (fk : Int32) (fq : Int32) (kd : Int32) (sa : Int32) (nu : Int32) (be : Int32) (le : Int32) (f : Nat → Int32) (into : Nat) (bx : Nat) (bn : Nat) (lc : Int32) (mf : Int32) (li : Int32) (fx : Nat → Int32) (sz : Nat) (hbn : bn < 12) : Met l yX6_readBox wsX6_readBox ({ frames := 6, cells := 0, slots := 0, locals := 129 }) (pcW E [.ref h0, .ref into] sz [(h0, .inr (6, [.ref tk, .int fk, .int fq])), (tk, .inr (10, [.ref tp, .int kd, .int sa, .int nu, .int be])), (tp, .inr (9, [.ref by_, .int le])), (by_, .inl (E.2.1 0, 800, .inl f)), (into, .inr (1, [.ref bx, .int (nI bn), .int lc, .int mf, .int li])), (bx, .inl (E.2.1 0, 72, .inl fx))]) (va_Qi (fun (r : Int32) (u : Int32 × Int32 × Int32 × Int32 × Int32 × Int32 × Nat × Int32 × Int32 × (Nat → Int32)) => match u with | (fk2, fq2, kd2, sa2, nu2, be2, bn2, lc2, mf2, fx2) => r = 0 ∨ r = 1) (fun (u : Int32 × Int32 × Int32 × Int32 × Int32 × Int32 × Nat × Int32 × Int32 × (Nat → Int32)) (t : State) => match u with | (fk2, fq2, kd2, sa2, nu2, be2, bn2, lc2, mf2, fx2) => (bn2 ≤ 12) ∧ wB E (va_A [(h0, .inr (6, [.ref tk, .int fk, .int fq])), (tk, .inr (10, [.ref tp, .int kd, .int sa, .int nu, .int be])), (tp, .inr (9, [.ref by_, .int le])), (by_, .inl (E.2.1 0, 800, .inl f)), (into, .inr (1, [.ref bx, .int (nI bn), .int lc, .int mf, .int li])), (bx, .inl (E.2.1 0, 72, .inl fx))] sz) [(h0, .inr (6, [.ref tk, .int fk2, .int fq2])), (tk, .inr (10, [.ref tp, .int kd2, .int sa2, .int nu2, .int be2])), (tp, .inr (9, [.ref by_, .int le])), (by_, .inl (E.2.1 0, 800, .inl f)), (into, .inr (1, [.ref bx, .int (nI bn2), .int lc2, .int mf2, .int li])), (bx, .inl (E.2.1 0, 72, .inl fx2))] t) (va_A [(h0, .inr (6, [.ref tk, .int fk, .int fq])), (tk, .inr (10, [.ref tp, .int kd, .int sa, .int nu, .int be])), (tp, .inr (9, [.ref by_, .int le])), (by_, .inl (E.2.1 0, 800, .inl f)), (into, .inr (1, [.ref bx, .int (nI bn), .int lc, .int mf, .int li])), (bx, .inl (E.2.1 0, 72, .inl fx))] sz)) 0 0 (va_A [(h0, .inr (6, [.ref tk, .int fk, .int fq])), (tk, .inr (10, [.ref tp, .int kd, .int sa, .int nu, .int be])), (tp, .inr (9, [.ref by_, .int le])), (by_, .inl (E.2.1 0, 800, .inl f)), (into, .inr (1, [.ref bx, .int (nI bn), .int lc, .int mf, .int li])), (bx, .inl (E.2.1 0, 72, .inl fx))] sz) := by
  refine Met.ofW (cc := cX6_readBox) (maxL := 5) (ret := (some .boolean)) (by decide) rfl ?_
  intro p e s m args below meth c s₁ B hml hv
  obtain ⟨rfl, hsz, hP, hkn, hD0, hst⟩ := hv
  have hx := B.exec
  have hb := B.bytes
  have hr := B.returns
  have hts := atoms_spec (ws := wsX6_readBox) B.pre
  have hown : s.vm.findClass RX6 = some m.cls := findClass_of_methodNamed B.named
  have hlocks := B.notSynchronized
  subst hsz
  have hD := hD0.self (sz := s.heap.size)
  have hK := hkn.1
  have hAO := hkn.2.2.1
  generalize hAe : va_A [(h0, .inr (6, [.ref tk, .int fk, .int fq])), (tk, .inr (10, [.ref tp, .int kd, .int sa, .int nu, .int be])), (tp, .inr (9, [.ref by_, .int le])), (by_, .inl (E.2.1 0, 800, .inl f)), (into, .inr (1, [.ref bx, .int (nI bn), .int lc, .int mf, .int li])), (bx, .inl (E.2.1 0, 72, .inl fx))] s.heap.size = A at hD hst ⊢
  have hA : ∀ q : Nat, s.heap.size ≤ q → A q := fun q h => by rw [← hAe]; exact Or.inr h
  have hS : va_S A s.heap s.heap [] := va_S.rf
  have hP : va_P E.1 vwCl [(h0, .inr (6, [.ref tk, .int fk, .int fq])), (tk, .inr (10, [.ref tp, .int kd, .int sa, .int nu, .int be])), (tp, .inr (9, [.ref by_, .int le])), (by_, .inl (E.2.1 0, 800, .inl f)), (into, .inr (1, [.ref bx, .int (nI bn), .int lc, .int mf, .int li])), (bx, .inl (E.2.1 0, 72, .inl fx))] s.heap := hP
  have hl := lv_entry ([.ref h0, .ref into]) (n := 5) (Nat.le_of_ble_eq_true rfl)
  rw [lg_entry_eq]
  generalize (lg_sl ([.ref h0, .ref into]) ++ List.replicate (5 - (lg_sl ([.ref h0, .ref into])).length) Slot.unset).toArray = ls at hl ⊢
  have hl : lv_has ls 5 [(0, .ref h0), (1, .ref into)] := hl
  have fl23 := hts (.fieldLink RX6 23 "BoatsHome$Reader" "tokens" "LBoatsHome$Tokens;") (by first | exact List.mem_of_getElem? (i := 1) rfl | decide +kernel)
  have fl116 := hts (.fieldLink RX6 116 "BoatsHome$Cover" "boxCount" "I") (by first | exact List.mem_of_getElem? (i := 2) rfl | decide +kernel)
  have fl144 := hts (.fieldLink RX6 144 "BoatsHome$Cover" "boxes" "[I") (by first | exact List.mem_of_getElem? (i := 3) rfl | decide +kernel)
  have inX1 : ∀ w ∈ u_ws RX1 TX1 5, w ∈ wsX6_readBox := by first | exact fun w h9 => (List.mem_cons_of_mem _ (List.mem_append_left _ (List.mem_append_left _ (List.mem_append_right _ h9)))) | decide +kernel
  have inX6 : ∀ w ∈ u_ws RX6 TX6 3, w ∈ wsX6_readBox := by first | exact fun w h9 => (List.mem_cons_of_mem _ (List.mem_append_left _ (List.mem_append_left _ (List.mem_append_left _ (List.mem_append_right _ h9))))) | decide +kernel
  refine lv_aload_n hx hb dX6_readBox_0 rfl (lv_at hl 0 rfl) ?_
  refine va_get (D := E.1) (ci := 6) (v := .ref tk) (C := RX6) (T := TX6) (N := 3) hx hb hts inX6 hown hK hP 0 rfl rfl 0 (by decide) fl23 (fun _ h9 => h9) rfl dX6_readBox_1 ?_
  have hPc := hP.sub (ws' := [(tk, .inr (10, [.ref tp, .int kd, .int sa, .int nu, .int be])), (tp, .inr (9, [.ref by_, .int le])), (by_, .inl (E.2.1 0, 800, .inl f))]) [1, 2, 3] rfl
  have hDc := hD.sub (ws' := [(tk, .inr (10, [.ref tp, .int kd, .int sa, .int nu, .int be])), (tp, .inr (9, [.ref by_, .int le])), (by_, .inl (E.2.1 0, 800, .inl f))]) [1, 2, 3] (by decide) rfl
  have hFc := va_free (wc := [(tk, .inr (10, [.ref tp, .int kd, .int sa, .int nu, .int be])), (tp, .inr (9, [.ref by_, .int le])), (by_, .inl (E.2.1 0, 800, .inl f))]) hD hS hA [1, 2, 3] rfl
  refine va_callv (va_runV (As := []) (rest := []) ⟨hx, hb, hml, hown, hts⟩ (c_X10_advance l E tk tp by_ kd sa nu be le f s.heap.size ) (cwV 0 hts gX6_readBox_X10_advance rfl rfl rfl hdV_X10_advance ⟨Nat.le_of_ble_eq_true rfl, Nat.le_of_ble_eq_true rfl⟩) ⟨pcW_blind, va_recv hK hPc (ci := 10) (q0 := 0) rfl rfl, (pcW_pre hPc hkn hDc hst hS hFc)⟩ rfl rfl hl.1 rfl (lv_room (Nat.le_of_ble_eq_true rfl)) dX6_readBox_4 ⟨Nat.le_of_ble_eq_true rfl, Nat.le_of_ble_eq_true rfl⟩) hS (fun q _ h => hFc q h) hFc (fun u t H1 locs ht hvm hw_2 hB hz1 hk1 hS => ?_)
  obtain ⟨u_3, u_4, u_5, u_6⟩ := u
  obtain ⟨hP1, hD1⟩ := hB
  rw [ht] at hP1
  try dsimp only at hw_2
  obtain ⟨hP, hD⟩ := va_join (wr := [(h0, .inr (6, [.ref tk, .int fk, .int fq])), (into, .inr (1, [.ref bx, .int (nI bn), .int lc, .int mf, .int li])), (bx, .inl (E.2.1 0, 72, .inl fx))]) (w1 := [(tk, .inr (10, [.ref tp, .int u_3, .int u_4, .int u_5, .int u_6])), (tp, .inr (9, [.ref by_, .int le])), (by_, .inl (E.2.1 0, 800, .inl f))]) hP hD [1, 2, 3] [0, 4, 5] rfl rfl (by decide) (by decide) hk1 hFc hP1 hD1
  generalize H1 = H at hP hS ⊢
  have hP : va_P E.1 vwCl [(h0, .inr (6, [.ref tk, .int fk, .int fq])), (into, .inr (1, [.ref bx, .int (nI bn), .int lc, .int mf, .int li])), (bx, .inl (E.2.1 0, 72, .inl fx)), (tk, .inr (10, [.ref tp, .int u_3, .int u_4, .int u_5, .int u_6])), (tp, .inr (9, [.ref by_, .int le])), (by_, .inl (E.2.1 0, 800, .inl f))] H := hP
  have hD : va_D A [(h0, .inr (6, [.ref tk, .int fk, .int fq])), (into, .inr (1, [.ref bx, .int (nI bn), .int lc, .int mf, .int li])), (bx, .inl (E.2.1 0, 72, .inl fx)), (tk, .inr (10, [.ref tp, .int u_3, .int u_4, .int u_5, .int u_6])), (tp, .inr (9, [.ref by_, .int le])), (by_, .inl (E.2.1 0, 800, .inl f))] := hD
  refine lv_aload_n hx hb dX6_readBox_7 rfl (lv_at hl 1 rfl) ?_
  refine va_get (D := E.1) (ci := 1) (v := .int (nI bn)) (C := RX1) (T := TX1) (N := 5) hx hb hts inX1 hown hK hP 1 rfl rfl 1 (by decide) fl116 (fun _ h9 => h9) rfl dX6_readBox_8 ?_
  refine lv_bipush (v := 6) hx hb dX6_readBox_11 (by decide) ?_
  refine lv_imul hx hb dX6_readBox_13 ?_
  refine lv_topi (fun x_7 ex_7 => ?_)
  obtain rfl : x_7 = nI (bn * 6) := ex_7.trans (pk_mul bn 6)
  refine lv_istore_n (lv' := [(2, .int (nI (bn * 6))), (0, .ref h0), (1, .ref into)]) hx hb dX6_readBox_14 rfl hl (by decide) rfl (fun ls hl => ?_)
  refine lv_iconst (v := 0) hx hb dX6_readBox_15 (by decide) ?_
  refine lv_istore_n (lv' := [(3, .int 0), (2, .int (nI (bn * 6))), (0, .ref h0), (1, .ref into)]) hx hb dX6_readBox_16 rfl hl (by decide) rfl (fun ls hl => ?_)
  refine lv_iload_n hx hb dX6_readBox_17 rfl (lv_at hl 0 rfl) ?_
  refine lv_bipush (v := 6) hx hb dX6_readBox_18 (by decide) ?_
  refine lv_icmp_ge (tgt := 88) hx hb dX6_readBox_20 (by decide) (fun c9 => absurd c9 (by decide)) (fun _ => ?_)
  refine lv_iload_n hx hb dX6_readBox_23 rfl (lv_at hl 0 rfl) ?_
  refine lv_iconst (v := 4) hx hb dX6_readBox_24 (by decide) ?_
  refine lv_icmp_ne (tgt := 37) hx hb dX6_readBox_25 (by decide) (fun _ => ?_) (fun c9 => absurd c9 (by decide))
  refine lv_iload_n hx hb dX6_readBox_37 rfl (lv_at hl 0 rfl) ?_
  refine lv_iconst (v := 5) hx hb dX6_readBox_38 (by decide) ?_
  refine lv_icmp_ne (tgt := 53) hx hb dX6_readBox_39 (by decide) (fun _ => ?_) (fun c9 => absurd c9 (by decide))
  refine lv_aload_n hx hb dX6_readBox_53 rfl (lv_at hl 2 rfl) ?_
  obtain ⟨tz_8, hZtz_8, hTtz_8⟩ := hst.2.2.1
  refine va_getsN hx hb hZtz_8 hS hown (va_Nw.use rfl (hkn.2.1 (.fieldLinkNest RX6 140 "BoatsHome" "BOX_BOUNDS" "[I" "BoatsHome") (by decide +kernel))) (fun _ h9 => h9) dX6_readBox_54 ?_
  refine lv_iload_n hx hb dX6_readBox_57 rfl (lv_at hl 0 rfl) ?_
  refine va_ti (v := .int 29) hx hb hTtz_8 hS (show vp_in 0 6 from by unfold vp_in; decide) rfl dX6_readBox_58 ?_
  have hPc := hP.sub (ws' := [(h0, .inr (6, [.ref tk, .int fk, .int fq])), (tk, .inr (10, [.ref tp, .int u_3, .int u_4, .int u_5, .int u_6])), (tp, .inr (9, [.ref by_, .int le])), (by_, .inl (E.2.1 0, 800, .inl f))]) [0, 3, 4, 5] rfl
  have hDc := hD.sub (ws' := [(h0, .inr (6, [.ref tk, .int fk, .int fq])), (tk, .inr (10, [.ref tp, .int u_3, .int u_4, .int u_5, .int u_6])), (tp, .inr (9, [.ref by_, .int le])), (by_, .inl (E.2.1 0, 800, .inl f))]) [0, 3, 4, 5] (by decide) rfl
  have hFc := va_free (wc := [(h0, .inr (6, [.ref tk, .int fk, .int fq])), (tk, .inr (10, [.ref tp, .int u_3, .int u_4, .int u_5, .int u_6])), (tp, .inr (9, [.ref by_, .int le])), (by_, .inl (E.2.1 0, 800, .inl f))]) hD hS hA [0, 3, 4, 5] rfl
  refine va_calli (va_runV (As := [.int 29]) (rest := []) ⟨hx, hb, hml, hown, hts⟩ (c_X6_takeNumber l E h0 tk tp by_ fk fq u_3 u_4 u_5 u_6 le f 29 H.size ) (cwV 1 hts gX6_readBox_X6_takeNumber rfl rfl rfl hdV_X6_takeNumber ⟨Nat.le_of_ble_eq_true rfl, Nat.le_of_ble_eq_true rfl⟩) ⟨pcW_blind, va_recv hK hPc (ci := 6) (q0 := 0) rfl rfl, (pcW_pre hPc hkn hDc hst hS hFc)⟩ rfl rfl hl.1 rfl (lv_room (Nat.le_of_ble_eq_true rfl)) dX6_readBox_59 ⟨Nat.le_of_ble_eq_true rfl, Nat.le_of_ble_eq_true rfl⟩) hS (fun q _ h => hFc q h) hFc (fun r_9 u t H1 locs ht hvm hw_10 hB hz1 hk1 hS => ?_)
  obtain ⟨u_11, u_12, u_13, u_14, u_15, u_16⟩ := u
  obtain ⟨hP1, hD1⟩ := hB
  rw [ht] at hP1
  try dsimp only at hw_10
  obtain ⟨hP, hD⟩ := va_join (wr := [(into, .inr (1, [.ref bx, .int (nI bn), .int lc, .int mf, .int li])), (bx, .inl (E.2.1 0, 72, .inl fx))]) (w1 := [(h0, .inr (6, [.ref tk, .int u_11, .int u_12])), (tk, .inr (10, [.ref tp, .int u_13, .int u_14, .int u_15, .int u_16])), (tp, .inr (9, [.ref by_, .int le])), (by_, .inl (E.2.1 0, 800, .inl f))]) hP hD [0, 3, 4, 5] [1, 2] rfl rfl (by decide) (by decide) hk1 hFc hP1 hD1
  generalize H1 = H at hP hS ⊢
  have hP : va_P E.1 vwCl [(into, .inr (1, [.ref bx, .int (nI bn), .int lc, .int mf, .int li])), (bx, .inl (E.2.1 0, 72, .inl fx)), (h0, .inr (6, [.ref tk, .int u_11, .int u_12])), (tk, .inr (10, [.ref tp, .int u_13, .int u_14, .int u_15, .int u_16])), (tp, .inr (9, [.ref by_, .int le])), (by_, .inl (E.2.1 0, 800, .inl f))] H := hP
  have hD : va_D A [(into, .inr (1, [.ref bx, .int (nI bn), .int lc, .int mf, .int li])), (bx, .inl (E.2.1 0, 72, .inl fx)), (h0, .inr (6, [.ref tk, .int u_11, .int u_12])), (tk, .inr (10, [.ref tp, .int u_13, .int u_14, .int u_15, .int u_16])), (tp, .inr (9, [.ref by_, .int le])), (by_, .inl (E.2.1 0, 800, .inl f))] := hD
  refine lv_istore (lv' := [(4, .int r_9), (3, .int 0), (2, .int (nI (bn * 6))), (0, .ref h0), (1, .ref into)]) hx hb dX6_readBox_62 hl (by decide) rfl (fun ls hl => ?_)
  refine lv_iload hx hb dX6_readBox_64 (lv_at hl 0 rfl) ?_
  refine lv_iconst (v := (-1)) hx hb dX6_readBox_66 (by decide) ?_
  refine lv_icmp_ne (tgt := 72) hx hb dX6_readBox_67 (by decide) (fun c_17 => ?_) (fun c_17 => ?_)
  · refine lv_aload_n hx hb dX6_readBox_72 rfl (lv_at hl 4 rfl) ?_
    refine va_get (D := E.1) (ci := 1) (v := .ref bx) (C := RX1) (T := TX1) (N := 5) hx hb hts inX1 hown hK hP 0 rfl rfl 0 (by decide) fl144 (fun _ h9 => h9) rfl dX6_readBox_73 ?_
    refine lv_iload_n hx hb dX6_readBox_76 rfl (lv_at hl 2 rfl) ?_
    refine lv_iload_n hx hb dX6_readBox_77 rfl (lv_at hl 1 rfl) ?_
    refine lv_iadd hx hb dX6_readBox_78 ?_
    refine lv_topi (fun x_18 ex_18 => ?_)
    obtain rfl : x_18 = nI ((bn * 6) + 0) := ex_18.trans (nI_add (bn * 6) 0)
    refine lv_iload hx hb dX6_readBox_79 (lv_at hl 0 rfl) ?_
    have hi_19 : vp_in (nI ((bn * 6) + 0)) 72 := vp_in_nI (by omega) (by decide)
    refine va_iast hx hb hK hP hD hS 1 0 rfl rfl hi_19 dX6_readBox_81 (fun H locs hP hD hS => ?_)
    have hP : va_P E.1 vwCl [(into, .inr (1, [.ref bx, .int (nI bn), .int lc, .int mf, .int li])), (bx, .inl (E.2.1 0, 72, .inl (upd fx (nI ((bn * 6) + 0)).toNatClampNeg r_9))), (h0, .inr (6, [.ref tk, .int u_11, .int u_12])), (tk, .inr (10, [.ref tp, .int u_13, .int u_14, .int u_15, .int u_16])), (tp, .inr (9, [.ref by_, .int le])), (by_, .inl (E.2.1 0, 800, .inl f))] H := hP
    have hD : va_D A [(into, .inr (1, [.ref bx, .int (nI bn), .int lc, .int mf, .int li])), (bx, .inl (E.2.1 0, 72, .inl (upd fx (nI ((bn * 6) + 0)).toNatClampNeg r_9))), (h0, .inr (6, [.ref tk, .int u_11, .int u_12])), (tk, .inr (10, [.ref tp, .int u_13, .int u_14, .int u_15, .int u_16])), (tp, .inr (9, [.ref by_, .int le])), (by_, .inl (E.2.1 0, 800, .inl f))] := hD
    obtain ⟨f_20, ef_20⟩ : ∃ g : Nat → Int32, g = upd fx (nI ((bn * 6) + 0)).toNatClampNeg r_9 := ⟨_, rfl⟩
    rw [← ef_20] at hP hD
    refine lv_iinc (v := 1) (lv' := [(3, .int 1), (4, .int r_9), (2, .int (nI (bn * 6))), (0, .ref h0), (1, .ref into)]) hx hb dX6_readBox_82 hl (k := 1) rfl (by decide) (by decide) rfl (fun ls hl => ?_)
    refine lv_goto (tgt := 17) hx hb dX6_readBox_85 (by decide) ?_
    refine lv_iload_n hx hb dX6_readBox_17 rfl (lv_at hl 0 rfl) ?_
    refine lv_bipush (v := 6) hx hb dX6_readBox_18 (by decide) ?_
    refine lv_icmp_ge (tgt := 88) hx hb dX6_readBox_20 (by decide) (fun c9 => absurd c9 (by decide)) (fun _ => ?_)
    refine lv_iload_n hx hb dX6_readBox_23 rfl (lv_at hl 0 rfl) ?_
    refine lv_iconst (v := 4) hx hb dX6_readBox_24 (by decide) ?_
    refine lv_icmp_ne (tgt := 37) hx hb dX6_readBox_25 (by decide) (fun _ => ?_) (fun c9 => absurd c9 (by decide))
    refine lv_iload_n hx hb dX6_readBox_37 rfl (lv_at hl 0 rfl) ?_
    refine lv_iconst (v := 5) hx hb dX6_readBox_38 (by decide) ?_
    refine lv_icmp_ne (tgt := 53) hx hb dX6_readBox_39 (by decide) (fun _ => ?_) (fun c9 => absurd c9 (by decide))
    refine lv_aload_n hx hb dX6_readBox_53 rfl (lv_at hl 3 rfl) ?_
    obtain ⟨tz_21, hZtz_21, hTtz_21⟩ := hst.2.2.1
    refine va_getsN hx hb hZtz_21 hS hown (va_Nw.use rfl (hkn.2.1 (.fieldLinkNest RX6 140 "BoatsHome" "BOX_BOUNDS" "[I" "BoatsHome") (by decide +kernel))) (fun _ h9 => h9) dX6_readBox_54 ?_
    refine lv_iload_n hx hb dX6_readBox_57 rfl (lv_at hl 0 rfl) ?_
    refine va_ti (v := .int 19) hx hb hTtz_21 hS (show vp_in 1 6 from by unfold vp_in; decide) rfl dX6_readBox_58 ?_
    have hPc := hP.sub (ws' := [(h0, .inr (6, [.ref tk, .int u_11, .int u_12])), (tk, .inr (10, [.ref tp, .int u_13, .int u_14, .int u_15, .int u_16])), (tp, .inr (9, [.ref by_, .int le])), (by_, .inl (E.2.1 0, 800, .inl f))]) [2, 3, 4, 5] rfl
    have hDc := hD.sub (ws' := [(h0, .inr (6, [.ref tk, .int u_11, .int u_12])), (tk, .inr (10, [.ref tp, .int u_13, .int u_14, .int u_15, .int u_16])), (tp, .inr (9, [.ref by_, .int le])), (by_, .inl (E.2.1 0, 800, .inl f))]) [2, 3, 4, 5] (by decide) rfl
    have hFc := va_free (wc := [(h0, .inr (6, [.ref tk, .int u_11, .int u_12])), (tk, .inr (10, [.ref tp, .int u_13, .int u_14, .int u_15, .int u_16])), (tp, .inr (9, [.ref by_, .int le])), (by_, .inl (E.2.1 0, 800, .inl f))]) hD hS hA [2, 3, 4, 5] rfl
    refine va_calli (va_runV (As := [.int 19]) (rest := []) ⟨hx, hb, hml, hown, hts⟩ (c_X6_takeNumber l E h0 tk tp by_ u_11 u_12 u_13 u_14 u_15 u_16 le f 19 H.size ) (cwV 1 hts gX6_readBox_X6_takeNumber rfl rfl rfl hdV_X6_takeNumber ⟨Nat.le_of_ble_eq_true rfl, Nat.le_of_ble_eq_true rfl⟩) ⟨pcW_blind, va_recv hK hPc (ci := 6) (q0 := 0) rfl rfl, (pcW_pre hPc hkn hDc hst hS hFc)⟩ rfl rfl hl.1 rfl (lv_room (Nat.le_of_ble_eq_true rfl)) dX6_readBox_59 ⟨Nat.le_of_ble_eq_true rfl, Nat.le_of_ble_eq_true rfl⟩) hS (fun q _ h => hFc q h) hFc (fun r_22 u t H1 locs ht hvm hw_23 hB hz1 hk1 hS => ?_)
    obtain ⟨u_24, u_25, u_26, u_27, u_28, u_29⟩ := u
    obtain ⟨hP1, hD1⟩ := hB
    rw [ht] at hP1
    try dsimp only at hw_23
    obtain ⟨hP, hD⟩ := va_join (wr := [(into, .inr (1, [.ref bx, .int (nI bn), .int lc, .int mf, .int li])), (bx, .inl (E.2.1 0, 72, .inl f_20))]) (w1 := [(h0, .inr (6, [.ref tk, .int u_24, .int u_25])), (tk, .inr (10, [.ref tp, .int u_26, .int u_27, .int u_28, .int u_29])), (tp, .inr (9, [.ref by_, .int le])), (by_, .inl (E.2.1 0, 800, .inl f))]) hP hD [2, 3, 4, 5] [0, 1] rfl rfl (by decide) (by decide) hk1 hFc hP1 hD1
    generalize H1 = H at hP hS ⊢
    have hP : va_P E.1 vwCl [(into, .inr (1, [.ref bx, .int (nI bn), .int lc, .int mf, .int li])), (bx, .inl (E.2.1 0, 72, .inl f_20)), (h0, .inr (6, [.ref tk, .int u_24, .int u_25])), (tk, .inr (10, [.ref tp, .int u_26, .int u_27, .int u_28, .int u_29])), (tp, .inr (9, [.ref by_, .int le])), (by_, .inl (E.2.1 0, 800, .inl f))] H := hP
    have hD : va_D A [(into, .inr (1, [.ref bx, .int (nI bn), .int lc, .int mf, .int li])), (bx, .inl (E.2.1 0, 72, .inl f_20)), (h0, .inr (6, [.ref tk, .int u_24, .int u_25])), (tk, .inr (10, [.ref tp, .int u_26, .int u_27, .int u_28, .int u_29])), (tp, .inr (9, [.ref by_, .int le])), (by_, .inl (E.2.1 0, 800, .inl f))] := hD
    refine lv_istore (lv' := [(4, .int r_22), (3, .int 1), (2, .int (nI (bn * 6))), (0, .ref h0), (1, .ref into)]) hx hb dX6_readBox_62 hl (by decide) rfl (fun ls hl => ?_)
    refine lv_iload hx hb dX6_readBox_64 (lv_at hl 0 rfl) ?_
    refine lv_iconst (v := (-1)) hx hb dX6_readBox_66 (by decide) ?_
    refine lv_icmp_ne (tgt := 72) hx hb dX6_readBox_67 (by decide) (fun c_30 => ?_) (fun c_30 => ?_)
    · refine lv_aload_n hx hb dX6_readBox_72 rfl (lv_at hl 4 rfl) ?_
      refine va_get (D := E.1) (ci := 1) (v := .ref bx) (C := RX1) (T := TX1) (N := 5) hx hb hts inX1 hown hK hP 0 rfl rfl 0 (by decide) fl144 (fun _ h9 => h9) rfl dX6_readBox_73 ?_
      refine lv_iload_n hx hb dX6_readBox_76 rfl (lv_at hl 2 rfl) ?_
      refine lv_iload_n hx hb dX6_readBox_77 rfl (lv_at hl 1 rfl) ?_
      refine lv_iadd hx hb dX6_readBox_78 ?_
      refine lv_topi (fun x_31 ex_31 => ?_)
      obtain rfl : x_31 = nI ((bn * 6) + 1) := ex_31.trans (nI_1 _)
      refine lv_iload hx hb dX6_readBox_79 (lv_at hl 0 rfl) ?_
      have hi_32 : vp_in (nI ((bn * 6) + 1)) 72 := vp_in_nI (by omega) (by decide)
      refine va_iast hx hb hK hP hD hS 1 0 rfl rfl hi_32 dX6_readBox_81 (fun H locs hP hD hS => ?_)
      have hP : va_P E.1 vwCl [(into, .inr (1, [.ref bx, .int (nI bn), .int lc, .int mf, .int li])), (bx, .inl (E.2.1 0, 72, .inl (upd f_20 (nI ((bn * 6) + 1)).toNatClampNeg r_22))), (h0, .inr (6, [.ref tk, .int u_24, .int u_25])), (tk, .inr (10, [.ref tp, .int u_26, .int u_27, .int u_28, .int u_29])), (tp, .inr (9, [.ref by_, .int le])), (by_, .inl (E.2.1 0, 800, .inl f))] H := hP
      have hD : va_D A [(into, .inr (1, [.ref bx, .int (nI bn), .int lc, .int mf, .int li])), (bx, .inl (E.2.1 0, 72, .inl (upd f_20 (nI ((bn * 6) + 1)).toNatClampNeg r_22))), (h0, .inr (6, [.ref tk, .int u_24, .int u_25])), (tk, .inr (10, [.ref tp, .int u_26, .int u_27, .int u_28, .int u_29])), (tp, .inr (9, [.ref by_, .int le])), (by_, .inl (E.2.1 0, 800, .inl f))] := hD
      obtain ⟨f_33, ef_33⟩ : ∃ g : Nat → Int32, g = upd f_20 (nI ((bn * 6) + 1)).toNatClampNeg r_22 := ⟨_, rfl⟩
      rw [← ef_33] at hP hD
      refine lv_iinc (v := 2) (lv' := [(3, .int 2), (4, .int r_22), (2, .int (nI (bn * 6))), (0, .ref h0), (1, .ref into)]) hx hb dX6_readBox_82 hl (k := 1) rfl (by decide) (by decide) rfl (fun ls hl => ?_)
      refine lv_goto (tgt := 17) hx hb dX6_readBox_85 (by decide) ?_
      refine lv_iload_n hx hb dX6_readBox_17 rfl (lv_at hl 0 rfl) ?_
      refine lv_bipush (v := 6) hx hb dX6_readBox_18 (by decide) ?_
      refine lv_icmp_ge (tgt := 88) hx hb dX6_readBox_20 (by decide) (fun c9 => absurd c9 (by decide)) (fun _ => ?_)
      refine lv_iload_n hx hb dX6_readBox_23 rfl (lv_at hl 0 rfl) ?_
      refine lv_iconst (v := 4) hx hb dX6_readBox_24 (by decide) ?_
      refine lv_icmp_ne (tgt := 37) hx hb dX6_readBox_25 (by decide) (fun _ => ?_) (fun c9 => absurd c9 (by decide))
      refine lv_iload_n hx hb dX6_readBox_37 rfl (lv_at hl 0 rfl) ?_
      refine lv_iconst (v := 5) hx hb dX6_readBox_38 (by decide) ?_
      refine lv_icmp_ne (tgt := 53) hx hb dX6_readBox_39 (by decide) (fun _ => ?_) (fun c9 => absurd c9 (by decide))
      refine lv_aload_n hx hb dX6_readBox_53 rfl (lv_at hl 3 rfl) ?_
      obtain ⟨tz_34, hZtz_34, hTtz_34⟩ := hst.2.2.1
      refine va_getsN hx hb hZtz_34 hS hown (va_Nw.use rfl (hkn.2.1 (.fieldLinkNest RX6 140 "BoatsHome" "BOX_BOUNDS" "[I" "BoatsHome") (by decide +kernel))) (fun _ h9 => h9) dX6_readBox_54 ?_
      refine lv_iload_n hx hb dX6_readBox_57 rfl (lv_at hl 0 rfl) ?_
      refine va_ti (v := .int 29) hx hb hTtz_34 hS (show vp_in 2 6 from by unfold vp_in; decide) rfl dX6_readBox_58 ?_
      have hPc := hP.sub (ws' := [(h0, .inr (6, [.ref tk, .int u_24, .int u_25])), (tk, .inr (10, [.ref tp, .int u_26, .int u_27, .int u_28, .int u_29])), (tp, .inr (9, [.ref by_, .int le])), (by_, .inl (E.2.1 0, 800, .inl f))]) [2, 3, 4, 5] rfl
      have hDc := hD.sub (ws' := [(h0, .inr (6, [.ref tk, .int u_24, .int u_25])), (tk, .inr (10, [.ref tp, .int u_26, .int u_27, .int u_28, .int u_29])), (tp, .inr (9, [.ref by_, .int le])), (by_, .inl (E.2.1 0, 800, .inl f))]) [2, 3, 4, 5] (by decide) rfl
      have hFc := va_free (wc := [(h0, .inr (6, [.ref tk, .int u_24, .int u_25])), (tk, .inr (10, [.ref tp, .int u_26, .int u_27, .int u_28, .int u_29])), (tp, .inr (9, [.ref by_, .int le])), (by_, .inl (E.2.1 0, 800, .inl f))]) hD hS hA [2, 3, 4, 5] rfl
      refine va_calli (va_runV (As := [.int 29]) (rest := []) ⟨hx, hb, hml, hown, hts⟩ (c_X6_takeNumber l E h0 tk tp by_ u_24 u_25 u_26 u_27 u_28 u_29 le f 29 H.size ) (cwV 1 hts gX6_readBox_X6_takeNumber rfl rfl rfl hdV_X6_takeNumber ⟨Nat.le_of_ble_eq_true rfl, Nat.le_of_ble_eq_true rfl⟩) ⟨pcW_blind, va_recv hK hPc (ci := 6) (q0 := 0) rfl rfl, (pcW_pre hPc hkn hDc hst hS hFc)⟩ rfl rfl hl.1 rfl (lv_room (Nat.le_of_ble_eq_true rfl)) dX6_readBox_59 ⟨Nat.le_of_ble_eq_true rfl, Nat.le_of_ble_eq_true rfl⟩) hS (fun q _ h => hFc q h) hFc (fun r_35 u t H1 locs ht hvm hw_36 hB hz1 hk1 hS => ?_)
      obtain ⟨u_37, u_38, u_39, u_40, u_41, u_42⟩ := u
      obtain ⟨hP1, hD1⟩ := hB
      rw [ht] at hP1
      try dsimp only at hw_36
      obtain ⟨hP, hD⟩ := va_join (wr := [(into, .inr (1, [.ref bx, .int (nI bn), .int lc, .int mf, .int li])), (bx, .inl (E.2.1 0, 72, .inl f_33))]) (w1 := [(h0, .inr (6, [.ref tk, .int u_37, .int u_38])), (tk, .inr (10, [.ref tp, .int u_39, .int u_40, .int u_41, .int u_42])), (tp, .inr (9, [.ref by_, .int le])), (by_, .inl (E.2.1 0, 800, .inl f))]) hP hD [2, 3, 4, 5] [0, 1] rfl rfl (by decide) (by decide) hk1 hFc hP1 hD1
      generalize H1 = H at hP hS ⊢
      have hP : va_P E.1 vwCl [(into, .inr (1, [.ref bx, .int (nI bn), .int lc, .int mf, .int li])), (bx, .inl (E.2.1 0, 72, .inl f_33)), (h0, .inr (6, [.ref tk, .int u_37, .int u_38])), (tk, .inr (10, [.ref tp, .int u_39, .int u_40, .int u_41, .int u_42])), (tp, .inr (9, [.ref by_, .int le])), (by_, .inl (E.2.1 0, 800, .inl f))] H := hP
      have hD : va_D A [(into, .inr (1, [.ref bx, .int (nI bn), .int lc, .int mf, .int li])), (bx, .inl (E.2.1 0, 72, .inl f_33)), (h0, .inr (6, [.ref tk, .int u_37, .int u_38])), (tk, .inr (10, [.ref tp, .int u_39, .int u_40, .int u_41, .int u_42])), (tp, .inr (9, [.ref by_, .int le])), (by_, .inl (E.2.1 0, 800, .inl f))] := hD
      refine lv_istore (lv' := [(4, .int r_35), (3, .int 2), (2, .int (nI (bn * 6))), (0, .ref h0), (1, .ref into)]) hx hb dX6_readBox_62 hl (by decide) rfl (fun ls hl => ?_)
      refine lv_iload hx hb dX6_readBox_64 (lv_at hl 0 rfl) ?_
      refine lv_iconst (v := (-1)) hx hb dX6_readBox_66 (by decide) ?_
      refine lv_icmp_ne (tgt := 72) hx hb dX6_readBox_67 (by decide) (fun c_43 => ?_) (fun c_43 => ?_)
      · refine lv_aload_n hx hb dX6_readBox_72 rfl (lv_at hl 4 rfl) ?_
        refine va_get (D := E.1) (ci := 1) (v := .ref bx) (C := RX1) (T := TX1) (N := 5) hx hb hts inX1 hown hK hP 0 rfl rfl 0 (by decide) fl144 (fun _ h9 => h9) rfl dX6_readBox_73 ?_
        refine lv_iload_n hx hb dX6_readBox_76 rfl (lv_at hl 2 rfl) ?_
        refine lv_iload_n hx hb dX6_readBox_77 rfl (lv_at hl 1 rfl) ?_
        refine lv_iadd hx hb dX6_readBox_78 ?_
        refine lv_topi (fun x_44 ex_44 => ?_)
        obtain rfl : x_44 = nI ((bn * 6) + 2) := ex_44.trans (nI_add (bn * 6) 2)
        refine lv_iload hx hb dX6_readBox_79 (lv_at hl 0 rfl) ?_
        have hi_45 : vp_in (nI ((bn * 6) + 2)) 72 := vp_in_nI (by omega) (by decide)
        refine va_iast hx hb hK hP hD hS 1 0 rfl rfl hi_45 dX6_readBox_81 (fun H locs hP hD hS => ?_)
        have hP : va_P E.1 vwCl [(into, .inr (1, [.ref bx, .int (nI bn), .int lc, .int mf, .int li])), (bx, .inl (E.2.1 0, 72, .inl (upd f_33 (nI ((bn * 6) + 2)).toNatClampNeg r_35))), (h0, .inr (6, [.ref tk, .int u_37, .int u_38])), (tk, .inr (10, [.ref tp, .int u_39, .int u_40, .int u_41, .int u_42])), (tp, .inr (9, [.ref by_, .int le])), (by_, .inl (E.2.1 0, 800, .inl f))] H := hP
        have hD : va_D A [(into, .inr (1, [.ref bx, .int (nI bn), .int lc, .int mf, .int li])), (bx, .inl (E.2.1 0, 72, .inl (upd f_33 (nI ((bn * 6) + 2)).toNatClampNeg r_35))), (h0, .inr (6, [.ref tk, .int u_37, .int u_38])), (tk, .inr (10, [.ref tp, .int u_39, .int u_40, .int u_41, .int u_42])), (tp, .inr (9, [.ref by_, .int le])), (by_, .inl (E.2.1 0, 800, .inl f))] := hD
        obtain ⟨f_46, ef_46⟩ : ∃ g : Nat → Int32, g = upd f_33 (nI ((bn * 6) + 2)).toNatClampNeg r_35 := ⟨_, rfl⟩
        rw [← ef_46] at hP hD
        refine lv_iinc (v := 3) (lv' := [(3, .int 3), (4, .int r_35), (2, .int (nI (bn * 6))), (0, .ref h0), (1, .ref into)]) hx hb dX6_readBox_82 hl (k := 1) rfl (by decide) (by decide) rfl (fun ls hl => ?_)
        refine lv_goto (tgt := 17) hx hb dX6_readBox_85 (by decide) ?_
        refine lv_iload_n hx hb dX6_readBox_17 rfl (lv_at hl 0 rfl) ?_
        refine lv_bipush (v := 6) hx hb dX6_readBox_18 (by decide) ?_
        refine lv_icmp_ge (tgt := 88) hx hb dX6_readBox_20 (by decide) (fun c9 => absurd c9 (by decide)) (fun _ => ?_)
        refine lv_iload_n hx hb dX6_readBox_23 rfl (lv_at hl 0 rfl) ?_
        refine lv_iconst (v := 4) hx hb dX6_readBox_24 (by decide) ?_
        refine lv_icmp_ne (tgt := 37) hx hb dX6_readBox_25 (by decide) (fun _ => ?_) (fun c9 => absurd c9 (by decide))
        refine lv_iload_n hx hb dX6_readBox_37 rfl (lv_at hl 0 rfl) ?_
        refine lv_iconst (v := 5) hx hb dX6_readBox_38 (by decide) ?_
        refine lv_icmp_ne (tgt := 53) hx hb dX6_readBox_39 (by decide) (fun _ => ?_) (fun c9 => absurd c9 (by decide))
        refine lv_aload_n hx hb dX6_readBox_53 rfl (lv_at hl 3 rfl) ?_
        obtain ⟨tz_47, hZtz_47, hTtz_47⟩ := hst.2.2.1
        refine va_getsN hx hb hZtz_47 hS hown (va_Nw.use rfl (hkn.2.1 (.fieldLinkNest RX6 140 "BoatsHome" "BOX_BOUNDS" "[I" "BoatsHome") (by decide +kernel))) (fun _ h9 => h9) dX6_readBox_54 ?_
        refine lv_iload_n hx hb dX6_readBox_57 rfl (lv_at hl 0 rfl) ?_
        refine va_ti (v := .int 19) hx hb hTtz_47 hS (show vp_in 3 6 from by unfold vp_in; decide) rfl dX6_readBox_58 ?_
        have hPc := hP.sub (ws' := [(h0, .inr (6, [.ref tk, .int u_37, .int u_38])), (tk, .inr (10, [.ref tp, .int u_39, .int u_40, .int u_41, .int u_42])), (tp, .inr (9, [.ref by_, .int le])), (by_, .inl (E.2.1 0, 800, .inl f))]) [2, 3, 4, 5] rfl
        have hDc := hD.sub (ws' := [(h0, .inr (6, [.ref tk, .int u_37, .int u_38])), (tk, .inr (10, [.ref tp, .int u_39, .int u_40, .int u_41, .int u_42])), (tp, .inr (9, [.ref by_, .int le])), (by_, .inl (E.2.1 0, 800, .inl f))]) [2, 3, 4, 5] (by decide) rfl
        have hFc := va_free (wc := [(h0, .inr (6, [.ref tk, .int u_37, .int u_38])), (tk, .inr (10, [.ref tp, .int u_39, .int u_40, .int u_41, .int u_42])), (tp, .inr (9, [.ref by_, .int le])), (by_, .inl (E.2.1 0, 800, .inl f))]) hD hS hA [2, 3, 4, 5] rfl
        refine va_calli (va_runV (As := [.int 19]) (rest := []) ⟨hx, hb, hml, hown, hts⟩ (c_X6_takeNumber l E h0 tk tp by_ u_37 u_38 u_39 u_40 u_41 u_42 le f 19 H.size ) (cwV 1 hts gX6_readBox_X6_takeNumber rfl rfl rfl hdV_X6_takeNumber ⟨Nat.le_of_ble_eq_true rfl, Nat.le_of_ble_eq_true rfl⟩) ⟨pcW_blind, va_recv hK hPc (ci := 6) (q0 := 0) rfl rfl, (pcW_pre hPc hkn hDc hst hS hFc)⟩ rfl rfl hl.1 rfl (lv_room (Nat.le_of_ble_eq_true rfl)) dX6_readBox_59 ⟨Nat.le_of_ble_eq_true rfl, Nat.le_of_ble_eq_true rfl⟩) hS (fun q _ h => hFc q h) hFc (fun r_48 u t H1 locs ht hvm hw_49 hB hz1 hk1 hS => ?_)
        obtain ⟨u_50, u_51, u_52, u_53, u_54, u_55⟩ := u
        obtain ⟨hP1, hD1⟩ := hB
        rw [ht] at hP1
        try dsimp only at hw_49
        obtain ⟨hP, hD⟩ := va_join (wr := [(into, .inr (1, [.ref bx, .int (nI bn), .int lc, .int mf, .int li])), (bx, .inl (E.2.1 0, 72, .inl f_46))]) (w1 := [(h0, .inr (6, [.ref tk, .int u_50, .int u_51])), (tk, .inr (10, [.ref tp, .int u_52, .int u_53, .int u_54, .int u_55])), (tp, .inr (9, [.ref by_, .int le])), (by_, .inl (E.2.1 0, 800, .inl f))]) hP hD [2, 3, 4, 5] [0, 1] rfl rfl (by decide) (by decide) hk1 hFc hP1 hD1
        generalize H1 = H at hP hS ⊢
        have hP : va_P E.1 vwCl [(into, .inr (1, [.ref bx, .int (nI bn), .int lc, .int mf, .int li])), (bx, .inl (E.2.1 0, 72, .inl f_46)), (h0, .inr (6, [.ref tk, .int u_50, .int u_51])), (tk, .inr (10, [.ref tp, .int u_52, .int u_53, .int u_54, .int u_55])), (tp, .inr (9, [.ref by_, .int le])), (by_, .inl (E.2.1 0, 800, .inl f))] H := hP
        have hD : va_D A [(into, .inr (1, [.ref bx, .int (nI bn), .int lc, .int mf, .int li])), (bx, .inl (E.2.1 0, 72, .inl f_46)), (h0, .inr (6, [.ref tk, .int u_50, .int u_51])), (tk, .inr (10, [.ref tp, .int u_52, .int u_53, .int u_54, .int u_55])), (tp, .inr (9, [.ref by_, .int le])), (by_, .inl (E.2.1 0, 800, .inl f))] := hD
        refine lv_istore (lv' := [(4, .int r_48), (3, .int 3), (2, .int (nI (bn * 6))), (0, .ref h0), (1, .ref into)]) hx hb dX6_readBox_62 hl (by decide) rfl (fun ls hl => ?_)
        refine lv_iload hx hb dX6_readBox_64 (lv_at hl 0 rfl) ?_
        refine lv_iconst (v := (-1)) hx hb dX6_readBox_66 (by decide) ?_
        refine lv_icmp_ne (tgt := 72) hx hb dX6_readBox_67 (by decide) (fun c_56 => ?_) (fun c_56 => ?_)
        · refine lv_aload_n hx hb dX6_readBox_72 rfl (lv_at hl 4 rfl) ?_
          refine va_get (D := E.1) (ci := 1) (v := .ref bx) (C := RX1) (T := TX1) (N := 5) hx hb hts inX1 hown hK hP 0 rfl rfl 0 (by decide) fl144 (fun _ h9 => h9) rfl dX6_readBox_73 ?_
          refine lv_iload_n hx hb dX6_readBox_76 rfl (lv_at hl 2 rfl) ?_
          refine lv_iload_n hx hb dX6_readBox_77 rfl (lv_at hl 1 rfl) ?_
          refine lv_iadd hx hb dX6_readBox_78 ?_
          refine lv_topi (fun x_57 ex_57 => ?_)
          obtain rfl : x_57 = nI ((bn * 6) + 3) := ex_57.trans (nI_add (bn * 6) 3)
          refine lv_iload hx hb dX6_readBox_79 (lv_at hl 0 rfl) ?_
          have hi_58 : vp_in (nI ((bn * 6) + 3)) 72 := vp_in_nI (by omega) (by decide)
          refine va_iast hx hb hK hP hD hS 1 0 rfl rfl hi_58 dX6_readBox_81 (fun H locs hP hD hS => ?_)
          have hP : va_P E.1 vwCl [(into, .inr (1, [.ref bx, .int (nI bn), .int lc, .int mf, .int li])), (bx, .inl (E.2.1 0, 72, .inl (upd f_46 (nI ((bn * 6) + 3)).toNatClampNeg r_48))), (h0, .inr (6, [.ref tk, .int u_50, .int u_51])), (tk, .inr (10, [.ref tp, .int u_52, .int u_53, .int u_54, .int u_55])), (tp, .inr (9, [.ref by_, .int le])), (by_, .inl (E.2.1 0, 800, .inl f))] H := hP
          have hD : va_D A [(into, .inr (1, [.ref bx, .int (nI bn), .int lc, .int mf, .int li])), (bx, .inl (E.2.1 0, 72, .inl (upd f_46 (nI ((bn * 6) + 3)).toNatClampNeg r_48))), (h0, .inr (6, [.ref tk, .int u_50, .int u_51])), (tk, .inr (10, [.ref tp, .int u_52, .int u_53, .int u_54, .int u_55])), (tp, .inr (9, [.ref by_, .int le])), (by_, .inl (E.2.1 0, 800, .inl f))] := hD
          obtain ⟨f_59, ef_59⟩ : ∃ g : Nat → Int32, g = upd f_46 (nI ((bn * 6) + 3)).toNatClampNeg r_48 := ⟨_, rfl⟩
          rw [← ef_59] at hP hD
          refine lv_iinc (v := 4) (lv' := [(3, .int 4), (4, .int r_48), (2, .int (nI (bn * 6))), (0, .ref h0), (1, .ref into)]) hx hb dX6_readBox_82 hl (k := 1) rfl (by decide) (by decide) rfl (fun ls hl => ?_)
          refine lv_goto (tgt := 17) hx hb dX6_readBox_85 (by decide) ?_
          refine lv_iload_n hx hb dX6_readBox_17 rfl (lv_at hl 0 rfl) ?_
          refine lv_bipush (v := 6) hx hb dX6_readBox_18 (by decide) ?_
          refine lv_icmp_ge (tgt := 88) hx hb dX6_readBox_20 (by decide) (fun c9 => absurd c9 (by decide)) (fun _ => ?_)
          refine lv_iload_n hx hb dX6_readBox_23 rfl (lv_at hl 0 rfl) ?_
          refine lv_iconst (v := 4) hx hb dX6_readBox_24 (by decide) ?_
          refine lv_icmp_ne (tgt := 37) hx hb dX6_readBox_25 (by decide) (fun c9 => absurd c9 (by decide)) (fun _ => ?_)
          refine lv_aload_n hx hb dX6_readBox_28 rfl (lv_at hl 3 rfl) ?_
          refine va_ldcS hx hb hown (hkn.2.2.2 13 (by decide)) dX6_readBox_29 ?_
          have hPc := hP.sub (ws' := [(h0, .inr (6, [.ref tk, .int u_50, .int u_51])), (tk, .inr (10, [.ref tp, .int u_52, .int u_53, .int u_54, .int u_55])), (tp, .inr (9, [.ref by_, .int le])), (by_, .inl (E.2.1 0, 800, .inl f))]) [2, 3, 4, 5] rfl
          have hDc := hD.sub (ws' := [(h0, .inr (6, [.ref tk, .int u_50, .int u_51])), (tk, .inr (10, [.ref tp, .int u_52, .int u_53, .int u_54, .int u_55])), (tp, .inr (9, [.ref by_, .int le])), (by_, .inl (E.2.1 0, 800, .inl f))]) [2, 3, 4, 5] (by decide) rfl
          have hFc := va_free (wc := [(h0, .inr (6, [.ref tk, .int u_50, .int u_51])), (tk, .inr (10, [.ref tp, .int u_52, .int u_53, .int u_54, .int u_55])), (tp, .inr (9, [.ref by_, .int le])), (by_, .inl (E.2.1 0, 800, .inl f))]) hD hS hA [2, 3, 4, 5] rfl
          refine va_calli (va_runV (As := [.ref (E.2.2.1 13)]) (rest := []) ⟨hx, hb, hml, hown, hts⟩ (c_X6_takeWord l E h0 tk tp by_ u_50 u_51 u_52 u_53 u_54 u_55 le f 13 H.size (by decide)) (cwV 1 hts gX6_readBox_X6_takeWord rfl rfl rfl hdV_X6_takeWord ⟨Nat.le_of_ble_eq_true rfl, Nat.le_of_ble_eq_true rfl⟩) ⟨pcW_blind, va_recv hK hPc (ci := 6) (q0 := 0) rfl rfl, (pcW_pre hPc hkn hDc hst hS hFc)⟩ rfl rfl hl.1 rfl (lv_room (Nat.le_of_ble_eq_true rfl)) dX6_readBox_31 ⟨Nat.le_of_ble_eq_true rfl, Nat.le_of_ble_eq_true rfl⟩) hS (fun q _ h => hFc q h) hFc (fun r_60 u t H1 locs ht hvm hw_61 hB hz1 hk1 hS => ?_)
          obtain ⟨u_62, u_63, u_64, u_65, u_66, u_67⟩ := u
          obtain ⟨hP1, hD1⟩ := hB
          rw [ht] at hP1
          try dsimp only at hw_61
          obtain ⟨hP, hD⟩ := va_join (wr := [(into, .inr (1, [.ref bx, .int (nI bn), .int lc, .int mf, .int li])), (bx, .inl (E.2.1 0, 72, .inl f_59))]) (w1 := [(h0, .inr (6, [.ref tk, .int u_62, .int u_63])), (tk, .inr (10, [.ref tp, .int u_64, .int u_65, .int u_66, .int u_67])), (tp, .inr (9, [.ref by_, .int le])), (by_, .inl (E.2.1 0, 800, .inl f))]) hP hD [2, 3, 4, 5] [0, 1] rfl rfl (by decide) (by decide) hk1 hFc hP1 hD1
          generalize H1 = H at hP hS ⊢
          have hP : va_P E.1 vwCl [(into, .inr (1, [.ref bx, .int (nI bn), .int lc, .int mf, .int li])), (bx, .inl (E.2.1 0, 72, .inl f_59)), (h0, .inr (6, [.ref tk, .int u_62, .int u_63])), (tk, .inr (10, [.ref tp, .int u_64, .int u_65, .int u_66, .int u_67])), (tp, .inr (9, [.ref by_, .int le])), (by_, .inl (E.2.1 0, 800, .inl f))] H := hP
          have hD : va_D A [(into, .inr (1, [.ref bx, .int (nI bn), .int lc, .int mf, .int li])), (bx, .inl (E.2.1 0, 72, .inl f_59)), (h0, .inr (6, [.ref tk, .int u_62, .int u_63])), (tk, .inr (10, [.ref tp, .int u_64, .int u_65, .int u_66, .int u_67])), (tp, .inr (9, [.ref by_, .int le])), (by_, .inl (E.2.1 0, 800, .inl f))] := hD
          refine lv_if_eq (tgt := 51) hx hb dX6_readBox_34 (by decide) (fun c_68 => ?_) (fun c_68 => ?_)
          · refine lv_iconst (v := 0) hx hb dX6_readBox_51 (by decide) ?_
            have hP9 := hP.sub (ws' := [(h0, .inr (6, [.ref tk, .int u_62, .int u_63])), (tk, .inr (10, [.ref tp, .int u_64, .int u_65, .int u_66, .int u_67])), (tp, .inr (9, [.ref by_, .int le])), (by_, .inl (E.2.1 0, 800, .inl f)), (into, .inr (1, [.ref bx, .int (nI bn), .int lc, .int mf, .int li])), (bx, .inl (E.2.1 0, 72, .inl f_59))]) [2, 3, 4, 5, 0, 1] rfl
            have hD9 := hD.sub (ws' := [(h0, .inr (6, [.ref tk, .int u_62, .int u_63])), (tk, .inr (10, [.ref tp, .int u_64, .int u_65, .int u_66, .int u_67])), (tp, .inr (9, [.ref by_, .int le])), (by_, .inl (E.2.1 0, 800, .inl f)), (into, .inr (1, [.ref bx, .int (nI bn), .int lc, .int mf, .int li])), (bx, .inl (E.2.1 0, 72, .inl f_59))]) [2, 3, 4, 5, 0, 1] (by decide) rfl
            exact W.zret (v := 0) hx hb hr (by decide) (fun t ht hW => ⟨⟨0, (u_62, u_63, u_64, u_65, u_66, u_67, bn, lc, mf, f_59), rfl, Or.inl rfl, (by omega), by rw [ht]; exact hP9, hD9⟩, hS.F ht⟩) hS.2.2 dX6_readBox_52
          · refine lv_iload_n hx hb dX6_readBox_37 rfl (lv_at hl 0 rfl) ?_
            refine lv_iconst (v := 5) hx hb dX6_readBox_38 (by decide) ?_
            refine lv_icmp_ne (tgt := 53) hx hb dX6_readBox_39 (by decide) (fun _ => ?_) (fun c9 => absurd c9 (by decide))
            refine lv_aload_n hx hb dX6_readBox_53 rfl (lv_at hl 3 rfl) ?_
            obtain ⟨tz_69, hZtz_69, hTtz_69⟩ := hst.2.2.1
            refine va_getsN hx hb hZtz_69 hS hown (va_Nw.use rfl (hkn.2.1 (.fieldLinkNest RX6 140 "BoatsHome" "BOX_BOUNDS" "[I" "BoatsHome") (by decide +kernel))) (fun _ h9 => h9) dX6_readBox_54 ?_
            refine lv_iload_n hx hb dX6_readBox_57 rfl (lv_at hl 0 rfl) ?_
            refine va_ti (v := .int 359) hx hb hTtz_69 hS (show vp_in 4 6 from by unfold vp_in; decide) rfl dX6_readBox_58 ?_
            have hPc := hP.sub (ws' := [(h0, .inr (6, [.ref tk, .int u_62, .int u_63])), (tk, .inr (10, [.ref tp, .int u_64, .int u_65, .int u_66, .int u_67])), (tp, .inr (9, [.ref by_, .int le])), (by_, .inl (E.2.1 0, 800, .inl f))]) [2, 3, 4, 5] rfl
            have hDc := hD.sub (ws' := [(h0, .inr (6, [.ref tk, .int u_62, .int u_63])), (tk, .inr (10, [.ref tp, .int u_64, .int u_65, .int u_66, .int u_67])), (tp, .inr (9, [.ref by_, .int le])), (by_, .inl (E.2.1 0, 800, .inl f))]) [2, 3, 4, 5] (by decide) rfl
            have hFc := va_free (wc := [(h0, .inr (6, [.ref tk, .int u_62, .int u_63])), (tk, .inr (10, [.ref tp, .int u_64, .int u_65, .int u_66, .int u_67])), (tp, .inr (9, [.ref by_, .int le])), (by_, .inl (E.2.1 0, 800, .inl f))]) hD hS hA [2, 3, 4, 5] rfl
            refine va_calli (va_runV (As := [.int 359]) (rest := []) ⟨hx, hb, hml, hown, hts⟩ (c_X6_takeNumber l E h0 tk tp by_ u_62 u_63 u_64 u_65 u_66 u_67 le f 359 H.size ) (cwV 1 hts gX6_readBox_X6_takeNumber rfl rfl rfl hdV_X6_takeNumber ⟨Nat.le_of_ble_eq_true rfl, Nat.le_of_ble_eq_true rfl⟩) ⟨pcW_blind, va_recv hK hPc (ci := 6) (q0 := 0) rfl rfl, (pcW_pre hPc hkn hDc hst hS hFc)⟩ rfl rfl hl.1 rfl (lv_room (Nat.le_of_ble_eq_true rfl)) dX6_readBox_59 ⟨Nat.le_of_ble_eq_true rfl, Nat.le_of_ble_eq_true rfl⟩) hS (fun q _ h => hFc q h) hFc (fun r_70 u t H1 locs ht hvm hw_71 hB hz1 hk1 hS => ?_)
            obtain ⟨u_72, u_73, u_74, u_75, u_76, u_77⟩ := u
            obtain ⟨hP1, hD1⟩ := hB
            rw [ht] at hP1
            try dsimp only at hw_71
            obtain ⟨hP, hD⟩ := va_join (wr := [(into, .inr (1, [.ref bx, .int (nI bn), .int lc, .int mf, .int li])), (bx, .inl (E.2.1 0, 72, .inl f_59))]) (w1 := [(h0, .inr (6, [.ref tk, .int u_72, .int u_73])), (tk, .inr (10, [.ref tp, .int u_74, .int u_75, .int u_76, .int u_77])), (tp, .inr (9, [.ref by_, .int le])), (by_, .inl (E.2.1 0, 800, .inl f))]) hP hD [2, 3, 4, 5] [0, 1] rfl rfl (by decide) (by decide) hk1 hFc hP1 hD1
            generalize H1 = H at hP hS ⊢
            have hP : va_P E.1 vwCl [(into, .inr (1, [.ref bx, .int (nI bn), .int lc, .int mf, .int li])), (bx, .inl (E.2.1 0, 72, .inl f_59)), (h0, .inr (6, [.ref tk, .int u_72, .int u_73])), (tk, .inr (10, [.ref tp, .int u_74, .int u_75, .int u_76, .int u_77])), (tp, .inr (9, [.ref by_, .int le])), (by_, .inl (E.2.1 0, 800, .inl f))] H := hP
            have hD : va_D A [(into, .inr (1, [.ref bx, .int (nI bn), .int lc, .int mf, .int li])), (bx, .inl (E.2.1 0, 72, .inl f_59)), (h0, .inr (6, [.ref tk, .int u_72, .int u_73])), (tk, .inr (10, [.ref tp, .int u_74, .int u_75, .int u_76, .int u_77])), (tp, .inr (9, [.ref by_, .int le])), (by_, .inl (E.2.1 0, 800, .inl f))] := hD
            refine lv_istore (lv' := [(4, .int r_70), (3, .int 4), (2, .int (nI (bn * 6))), (0, .ref h0), (1, .ref into)]) hx hb dX6_readBox_62 hl (by decide) rfl (fun ls hl => ?_)
            refine lv_iload hx hb dX6_readBox_64 (lv_at hl 0 rfl) ?_
            refine lv_iconst (v := (-1)) hx hb dX6_readBox_66 (by decide) ?_
            refine lv_icmp_ne (tgt := 72) hx hb dX6_readBox_67 (by decide) (fun c_78 => ?_) (fun c_78 => ?_)
            · refine lv_aload_n hx hb dX6_readBox_72 rfl (lv_at hl 4 rfl) ?_
              refine va_get (D := E.1) (ci := 1) (v := .ref bx) (C := RX1) (T := TX1) (N := 5) hx hb hts inX1 hown hK hP 0 rfl rfl 0 (by decide) fl144 (fun _ h9 => h9) rfl dX6_readBox_73 ?_
              refine lv_iload_n hx hb dX6_readBox_76 rfl (lv_at hl 2 rfl) ?_
              refine lv_iload_n hx hb dX6_readBox_77 rfl (lv_at hl 1 rfl) ?_
              refine lv_iadd hx hb dX6_readBox_78 ?_
              refine lv_topi (fun x_79 ex_79 => ?_)
              obtain rfl : x_79 = nI ((bn * 6) + 4) := ex_79.trans (nI_add (bn * 6) 4)
              refine lv_iload hx hb dX6_readBox_79 (lv_at hl 0 rfl) ?_
              have hi_80 : vp_in (nI ((bn * 6) + 4)) 72 := vp_in_nI (by omega) (by decide)
              refine va_iast hx hb hK hP hD hS 1 0 rfl rfl hi_80 dX6_readBox_81 (fun H locs hP hD hS => ?_)
              have hP : va_P E.1 vwCl [(into, .inr (1, [.ref bx, .int (nI bn), .int lc, .int mf, .int li])), (bx, .inl (E.2.1 0, 72, .inl (upd f_59 (nI ((bn * 6) + 4)).toNatClampNeg r_70))), (h0, .inr (6, [.ref tk, .int u_72, .int u_73])), (tk, .inr (10, [.ref tp, .int u_74, .int u_75, .int u_76, .int u_77])), (tp, .inr (9, [.ref by_, .int le])), (by_, .inl (E.2.1 0, 800, .inl f))] H := hP
              have hD : va_D A [(into, .inr (1, [.ref bx, .int (nI bn), .int lc, .int mf, .int li])), (bx, .inl (E.2.1 0, 72, .inl (upd f_59 (nI ((bn * 6) + 4)).toNatClampNeg r_70))), (h0, .inr (6, [.ref tk, .int u_72, .int u_73])), (tk, .inr (10, [.ref tp, .int u_74, .int u_75, .int u_76, .int u_77])), (tp, .inr (9, [.ref by_, .int le])), (by_, .inl (E.2.1 0, 800, .inl f))] := hD
              obtain ⟨f_81, ef_81⟩ : ∃ g : Nat → Int32, g = upd f_59 (nI ((bn * 6) + 4)).toNatClampNeg r_70 := ⟨_, rfl⟩
              rw [← ef_81] at hP hD
              refine lv_iinc (v := 5) (lv' := [(3, .int 5), (4, .int r_70), (2, .int (nI (bn * 6))), (0, .ref h0), (1, .ref into)]) hx hb dX6_readBox_82 hl (k := 1) rfl (by decide) (by decide) rfl (fun ls hl => ?_)
              refine lv_goto (tgt := 17) hx hb dX6_readBox_85 (by decide) ?_
              refine lv_iload_n hx hb dX6_readBox_17 rfl (lv_at hl 0 rfl) ?_
              refine lv_bipush (v := 6) hx hb dX6_readBox_18 (by decide) ?_
              refine lv_icmp_ge (tgt := 88) hx hb dX6_readBox_20 (by decide) (fun c9 => absurd c9 (by decide)) (fun _ => ?_)
              refine lv_iload_n hx hb dX6_readBox_23 rfl (lv_at hl 0 rfl) ?_
              refine lv_iconst (v := 4) hx hb dX6_readBox_24 (by decide) ?_
              refine lv_icmp_ne (tgt := 37) hx hb dX6_readBox_25 (by decide) (fun _ => ?_) (fun c9 => absurd c9 (by decide))
              refine lv_iload_n hx hb dX6_readBox_37 rfl (lv_at hl 0 rfl) ?_
              refine lv_iconst (v := 5) hx hb dX6_readBox_38 (by decide) ?_
              refine lv_icmp_ne (tgt := 53) hx hb dX6_readBox_39 (by decide) (fun c9 => absurd c9 (by decide)) (fun _ => ?_)
              refine lv_aload_n hx hb dX6_readBox_42 rfl (lv_at hl 3 rfl) ?_
              refine va_ldcS hx hb hown (hkn.2.2.2 14 (by decide)) dX6_readBox_43 ?_
              have hPc := hP.sub (ws' := [(h0, .inr (6, [.ref tk, .int u_72, .int u_73])), (tk, .inr (10, [.ref tp, .int u_74, .int u_75, .int u_76, .int u_77])), (tp, .inr (9, [.ref by_, .int le])), (by_, .inl (E.2.1 0, 800, .inl f))]) [2, 3, 4, 5] rfl
              have hDc := hD.sub (ws' := [(h0, .inr (6, [.ref tk, .int u_72, .int u_73])), (tk, .inr (10, [.ref tp, .int u_74, .int u_75, .int u_76, .int u_77])), (tp, .inr (9, [.ref by_, .int le])), (by_, .inl (E.2.1 0, 800, .inl f))]) [2, 3, 4, 5] (by decide) rfl
              have hFc := va_free (wc := [(h0, .inr (6, [.ref tk, .int u_72, .int u_73])), (tk, .inr (10, [.ref tp, .int u_74, .int u_75, .int u_76, .int u_77])), (tp, .inr (9, [.ref by_, .int le])), (by_, .inl (E.2.1 0, 800, .inl f))]) hD hS hA [2, 3, 4, 5] rfl
              refine va_calli (va_runV (As := [.ref (E.2.2.1 14)]) (rest := []) ⟨hx, hb, hml, hown, hts⟩ (c_X6_takeWord l E h0 tk tp by_ u_72 u_73 u_74 u_75 u_76 u_77 le f 14 H.size (by decide)) (cwV 1 hts gX6_readBox_X6_takeWord rfl rfl rfl hdV_X6_takeWord ⟨Nat.le_of_ble_eq_true rfl, Nat.le_of_ble_eq_true rfl⟩) ⟨pcW_blind, va_recv hK hPc (ci := 6) (q0 := 0) rfl rfl, (pcW_pre hPc hkn hDc hst hS hFc)⟩ rfl rfl hl.1 rfl (lv_room (Nat.le_of_ble_eq_true rfl)) dX6_readBox_45 ⟨Nat.le_of_ble_eq_true rfl, Nat.le_of_ble_eq_true rfl⟩) hS (fun q _ h => hFc q h) hFc (fun r_82 u t H1 locs ht hvm hw_83 hB hz1 hk1 hS => ?_)
              obtain ⟨u_84, u_85, u_86, u_87, u_88, u_89⟩ := u
              obtain ⟨hP1, hD1⟩ := hB
              rw [ht] at hP1
              try dsimp only at hw_83
              obtain ⟨hP, hD⟩ := va_join (wr := [(into, .inr (1, [.ref bx, .int (nI bn), .int lc, .int mf, .int li])), (bx, .inl (E.2.1 0, 72, .inl f_81))]) (w1 := [(h0, .inr (6, [.ref tk, .int u_84, .int u_85])), (tk, .inr (10, [.ref tp, .int u_86, .int u_87, .int u_88, .int u_89])), (tp, .inr (9, [.ref by_, .int le])), (by_, .inl (E.2.1 0, 800, .inl f))]) hP hD [2, 3, 4, 5] [0, 1] rfl rfl (by decide) (by decide) hk1 hFc hP1 hD1
              generalize H1 = H at hP hS ⊢
              have hP : va_P E.1 vwCl [(into, .inr (1, [.ref bx, .int (nI bn), .int lc, .int mf, .int li])), (bx, .inl (E.2.1 0, 72, .inl f_81)), (h0, .inr (6, [.ref tk, .int u_84, .int u_85])), (tk, .inr (10, [.ref tp, .int u_86, .int u_87, .int u_88, .int u_89])), (tp, .inr (9, [.ref by_, .int le])), (by_, .inl (E.2.1 0, 800, .inl f))] H := hP
              have hD : va_D A [(into, .inr (1, [.ref bx, .int (nI bn), .int lc, .int mf, .int li])), (bx, .inl (E.2.1 0, 72, .inl f_81)), (h0, .inr (6, [.ref tk, .int u_84, .int u_85])), (tk, .inr (10, [.ref tp, .int u_86, .int u_87, .int u_88, .int u_89])), (tp, .inr (9, [.ref by_, .int le])), (by_, .inl (E.2.1 0, 800, .inl f))] := hD
              refine lv_if_ne (tgt := 53) hx hb dX6_readBox_48 (by decide) (fun c_90 => ?_) (fun c_90 => ?_)
              · refine lv_aload_n hx hb dX6_readBox_53 rfl (lv_at hl 3 rfl) ?_
                obtain ⟨tz_91, hZtz_91, hTtz_91⟩ := hst.2.2.1
                refine va_getsN hx hb hZtz_91 hS hown (va_Nw.use rfl (hkn.2.1 (.fieldLinkNest RX6 140 "BoatsHome" "BOX_BOUNDS" "[I" "BoatsHome") (by decide +kernel))) (fun _ h9 => h9) dX6_readBox_54 ?_
                refine lv_iload_n hx hb dX6_readBox_57 rfl (lv_at hl 0 rfl) ?_
                refine va_ti (v := .int 359) hx hb hTtz_91 hS (show vp_in 5 6 from by unfold vp_in; decide) rfl dX6_readBox_58 ?_
                have hPc := hP.sub (ws' := [(h0, .inr (6, [.ref tk, .int u_84, .int u_85])), (tk, .inr (10, [.ref tp, .int u_86, .int u_87, .int u_88, .int u_89])), (tp, .inr (9, [.ref by_, .int le])), (by_, .inl (E.2.1 0, 800, .inl f))]) [2, 3, 4, 5] rfl
                have hDc := hD.sub (ws' := [(h0, .inr (6, [.ref tk, .int u_84, .int u_85])), (tk, .inr (10, [.ref tp, .int u_86, .int u_87, .int u_88, .int u_89])), (tp, .inr (9, [.ref by_, .int le])), (by_, .inl (E.2.1 0, 800, .inl f))]) [2, 3, 4, 5] (by decide) rfl
                have hFc := va_free (wc := [(h0, .inr (6, [.ref tk, .int u_84, .int u_85])), (tk, .inr (10, [.ref tp, .int u_86, .int u_87, .int u_88, .int u_89])), (tp, .inr (9, [.ref by_, .int le])), (by_, .inl (E.2.1 0, 800, .inl f))]) hD hS hA [2, 3, 4, 5] rfl
                refine va_calli (va_runV (As := [.int 359]) (rest := []) ⟨hx, hb, hml, hown, hts⟩ (c_X6_takeNumber l E h0 tk tp by_ u_84 u_85 u_86 u_87 u_88 u_89 le f 359 H.size ) (cwV 1 hts gX6_readBox_X6_takeNumber rfl rfl rfl hdV_X6_takeNumber ⟨Nat.le_of_ble_eq_true rfl, Nat.le_of_ble_eq_true rfl⟩) ⟨pcW_blind, va_recv hK hPc (ci := 6) (q0 := 0) rfl rfl, (pcW_pre hPc hkn hDc hst hS hFc)⟩ rfl rfl hl.1 rfl (lv_room (Nat.le_of_ble_eq_true rfl)) dX6_readBox_59 ⟨Nat.le_of_ble_eq_true rfl, Nat.le_of_ble_eq_true rfl⟩) hS (fun q _ h => hFc q h) hFc (fun r_92 u t H1 locs ht hvm hw_93 hB hz1 hk1 hS => ?_)
                obtain ⟨u_94, u_95, u_96, u_97, u_98, u_99⟩ := u
                obtain ⟨hP1, hD1⟩ := hB
                rw [ht] at hP1
                try dsimp only at hw_93
                obtain ⟨hP, hD⟩ := va_join (wr := [(into, .inr (1, [.ref bx, .int (nI bn), .int lc, .int mf, .int li])), (bx, .inl (E.2.1 0, 72, .inl f_81))]) (w1 := [(h0, .inr (6, [.ref tk, .int u_94, .int u_95])), (tk, .inr (10, [.ref tp, .int u_96, .int u_97, .int u_98, .int u_99])), (tp, .inr (9, [.ref by_, .int le])), (by_, .inl (E.2.1 0, 800, .inl f))]) hP hD [2, 3, 4, 5] [0, 1] rfl rfl (by decide) (by decide) hk1 hFc hP1 hD1
                generalize H1 = H at hP hS ⊢
                have hP : va_P E.1 vwCl [(into, .inr (1, [.ref bx, .int (nI bn), .int lc, .int mf, .int li])), (bx, .inl (E.2.1 0, 72, .inl f_81)), (h0, .inr (6, [.ref tk, .int u_94, .int u_95])), (tk, .inr (10, [.ref tp, .int u_96, .int u_97, .int u_98, .int u_99])), (tp, .inr (9, [.ref by_, .int le])), (by_, .inl (E.2.1 0, 800, .inl f))] H := hP
                have hD : va_D A [(into, .inr (1, [.ref bx, .int (nI bn), .int lc, .int mf, .int li])), (bx, .inl (E.2.1 0, 72, .inl f_81)), (h0, .inr (6, [.ref tk, .int u_94, .int u_95])), (tk, .inr (10, [.ref tp, .int u_96, .int u_97, .int u_98, .int u_99])), (tp, .inr (9, [.ref by_, .int le])), (by_, .inl (E.2.1 0, 800, .inl f))] := hD
                refine lv_istore (lv' := [(4, .int r_92), (3, .int 5), (2, .int (nI (bn * 6))), (0, .ref h0), (1, .ref into)]) hx hb dX6_readBox_62 hl (by decide) rfl (fun ls hl => ?_)
                refine lv_iload hx hb dX6_readBox_64 (lv_at hl 0 rfl) ?_
                refine lv_iconst (v := (-1)) hx hb dX6_readBox_66 (by decide) ?_
                refine lv_icmp_ne (tgt := 72) hx hb dX6_readBox_67 (by decide) (fun c_100 => ?_) (fun c_100 => ?_)
                · refine lv_aload_n hx hb dX6_readBox_72 rfl (lv_at hl 4 rfl) ?_
                  refine va_get (D := E.1) (ci := 1) (v := .ref bx) (C := RX1) (T := TX1) (N := 5) hx hb hts inX1 hown hK hP 0 rfl rfl 0 (by decide) fl144 (fun _ h9 => h9) rfl dX6_readBox_73 ?_
                  refine lv_iload_n hx hb dX6_readBox_76 rfl (lv_at hl 2 rfl) ?_
                  refine lv_iload_n hx hb dX6_readBox_77 rfl (lv_at hl 1 rfl) ?_
                  refine lv_iadd hx hb dX6_readBox_78 ?_
                  refine lv_topi (fun x_101 ex_101 => ?_)
                  obtain rfl : x_101 = nI ((bn * 6) + 5) := ex_101.trans (nI_add (bn * 6) 5)
                  refine lv_iload hx hb dX6_readBox_79 (lv_at hl 0 rfl) ?_
                  have hi_102 : vp_in (nI ((bn * 6) + 5)) 72 := vp_in_nI (by omega) (by decide)
                  refine va_iast hx hb hK hP hD hS 1 0 rfl rfl hi_102 dX6_readBox_81 (fun H locs hP hD hS => ?_)
                  have hP : va_P E.1 vwCl [(into, .inr (1, [.ref bx, .int (nI bn), .int lc, .int mf, .int li])), (bx, .inl (E.2.1 0, 72, .inl (upd f_81 (nI ((bn * 6) + 5)).toNatClampNeg r_92))), (h0, .inr (6, [.ref tk, .int u_94, .int u_95])), (tk, .inr (10, [.ref tp, .int u_96, .int u_97, .int u_98, .int u_99])), (tp, .inr (9, [.ref by_, .int le])), (by_, .inl (E.2.1 0, 800, .inl f))] H := hP
                  have hD : va_D A [(into, .inr (1, [.ref bx, .int (nI bn), .int lc, .int mf, .int li])), (bx, .inl (E.2.1 0, 72, .inl (upd f_81 (nI ((bn * 6) + 5)).toNatClampNeg r_92))), (h0, .inr (6, [.ref tk, .int u_94, .int u_95])), (tk, .inr (10, [.ref tp, .int u_96, .int u_97, .int u_98, .int u_99])), (tp, .inr (9, [.ref by_, .int le])), (by_, .inl (E.2.1 0, 800, .inl f))] := hD
                  obtain ⟨f_103, ef_103⟩ : ∃ g : Nat → Int32, g = upd f_81 (nI ((bn * 6) + 5)).toNatClampNeg r_92 := ⟨_, rfl⟩
                  rw [← ef_103] at hP hD
                  refine lv_iinc (v := 6) (lv' := [(3, .int 6), (4, .int r_92), (2, .int (nI (bn * 6))), (0, .ref h0), (1, .ref into)]) hx hb dX6_readBox_82 hl (k := 1) rfl (by decide) (by decide) rfl (fun ls hl => ?_)
                  refine lv_goto (tgt := 17) hx hb dX6_readBox_85 (by decide) ?_
                  refine lv_iload_n hx hb dX6_readBox_17 rfl (lv_at hl 0 rfl) ?_
                  refine lv_bipush (v := 6) hx hb dX6_readBox_18 (by decide) ?_
                  refine lv_icmp_ge (tgt := 88) hx hb dX6_readBox_20 (by decide) (fun _ => ?_) (fun c9 => absurd c9 (by decide))
                  refine lv_aload_n hx hb dX6_readBox_88 rfl (lv_at hl 4 rfl) ?_
                  refine lv_dup hx hb dX6_readBox_89 rfl ?_
                  refine va_get (D := E.1) (ci := 1) (v := .int (nI bn)) (C := RX1) (T := TX1) (N := 5) hx hb hts inX1 hown hK hP 0 rfl rfl 1 (by decide) fl116 (fun _ h9 => h9) rfl dX6_readBox_90 ?_
                  refine lv_iconst (v := 1) hx hb dX6_readBox_93 (by decide) ?_
                  refine lv_iadd hx hb dX6_readBox_94 ?_
                  refine lv_topi (fun x_104 ex_104 => ?_)
                  obtain rfl : x_104 = nI (bn + 1) := ex_104.trans (nI_1 _)
                  refine va_put (D := E.1) (ci := 1) (v := .int (nI (bn + 1))) (ty := .int) (C := RX1) (T := TX1) (N := 5) hx hb hts inX1 tyX1 tyX1_ok nmX1 hown hK hP hD hS 0 rfl rfl 1 (by decide) fl116 (fun _ h9 => h9) rfl (by decide +kernel) rfl rfl (Nat.le_of_ble_eq_true rfl) dX6_readBox_95 (fun H locs hP hD hS => ?_)
                  have hP : va_P E.1 vwCl [(into, .inr (1, [.ref bx, .int (nI (bn + 1)), .int lc, .int mf, .int li])), (bx, .inl (E.2.1 0, 72, .inl f_103)), (h0, .inr (6, [.ref tk, .int u_94, .int u_95])), (tk, .inr (10, [.ref tp, .int u_96, .int u_97, .int u_98, .int u_99])), (tp, .inr (9, [.ref by_, .int le])), (by_, .inl (E.2.1 0, 800, .inl f))] H := hP
                  have hD : va_D A [(into, .inr (1, [.ref bx, .int (nI (bn + 1)), .int lc, .int mf, .int li])), (bx, .inl (E.2.1 0, 72, .inl f_103)), (h0, .inr (6, [.ref tk, .int u_94, .int u_95])), (tk, .inr (10, [.ref tp, .int u_96, .int u_97, .int u_98, .int u_99])), (tp, .inr (9, [.ref by_, .int le])), (by_, .inl (E.2.1 0, 800, .inl f))] := hD
                  refine lv_iconst (v := 1) hx hb dX6_readBox_98 (by decide) ?_
                  have hP9 := hP.sub (ws' := [(h0, .inr (6, [.ref tk, .int u_94, .int u_95])), (tk, .inr (10, [.ref tp, .int u_96, .int u_97, .int u_98, .int u_99])), (tp, .inr (9, [.ref by_, .int le])), (by_, .inl (E.2.1 0, 800, .inl f)), (into, .inr (1, [.ref bx, .int (nI (bn + 1)), .int lc, .int mf, .int li])), (bx, .inl (E.2.1 0, 72, .inl f_103))]) [2, 3, 4, 5, 0, 1] rfl
                  have hD9 := hD.sub (ws' := [(h0, .inr (6, [.ref tk, .int u_94, .int u_95])), (tk, .inr (10, [.ref tp, .int u_96, .int u_97, .int u_98, .int u_99])), (tp, .inr (9, [.ref by_, .int le])), (by_, .inl (E.2.1 0, 800, .inl f)), (into, .inr (1, [.ref bx, .int (nI (bn + 1)), .int lc, .int mf, .int li])), (bx, .inl (E.2.1 0, 72, .inl f_103))]) [2, 3, 4, 5, 0, 1] (by decide) rfl
                  exact W.zret (v := 1) hx hb hr (by decide) (fun t ht hW => ⟨⟨1, (u_94, u_95, u_96, u_97, u_98, u_99, (bn + 1), lc, mf, f_103), rfl, Or.inr rfl, (by omega), by rw [ht]; exact hP9, hD9⟩, hS.F ht⟩) hS.2.2 dX6_readBox_99
                · refine lv_iconst (v := 0) hx hb dX6_readBox_70 (by decide) ?_
                  have hP9 := hP.sub (ws' := [(h0, .inr (6, [.ref tk, .int u_94, .int u_95])), (tk, .inr (10, [.ref tp, .int u_96, .int u_97, .int u_98, .int u_99])), (tp, .inr (9, [.ref by_, .int le])), (by_, .inl (E.2.1 0, 800, .inl f)), (into, .inr (1, [.ref bx, .int (nI bn), .int lc, .int mf, .int li])), (bx, .inl (E.2.1 0, 72, .inl f_81))]) [2, 3, 4, 5, 0, 1] rfl
                  have hD9 := hD.sub (ws' := [(h0, .inr (6, [.ref tk, .int u_94, .int u_95])), (tk, .inr (10, [.ref tp, .int u_96, .int u_97, .int u_98, .int u_99])), (tp, .inr (9, [.ref by_, .int le])), (by_, .inl (E.2.1 0, 800, .inl f)), (into, .inr (1, [.ref bx, .int (nI bn), .int lc, .int mf, .int li])), (bx, .inl (E.2.1 0, 72, .inl f_81))]) [2, 3, 4, 5, 0, 1] (by decide) rfl
                  exact W.zret (v := 0) hx hb hr (by decide) (fun t ht hW => ⟨⟨0, (u_94, u_95, u_96, u_97, u_98, u_99, bn, lc, mf, f_81), rfl, Or.inl rfl, (by omega), by rw [ht]; exact hP9, hD9⟩, hS.F ht⟩) hS.2.2 dX6_readBox_71
              · refine lv_iconst (v := 0) hx hb dX6_readBox_51 (by decide) ?_
                have hP9 := hP.sub (ws' := [(h0, .inr (6, [.ref tk, .int u_84, .int u_85])), (tk, .inr (10, [.ref tp, .int u_86, .int u_87, .int u_88, .int u_89])), (tp, .inr (9, [.ref by_, .int le])), (by_, .inl (E.2.1 0, 800, .inl f)), (into, .inr (1, [.ref bx, .int (nI bn), .int lc, .int mf, .int li])), (bx, .inl (E.2.1 0, 72, .inl f_81))]) [2, 3, 4, 5, 0, 1] rfl
                have hD9 := hD.sub (ws' := [(h0, .inr (6, [.ref tk, .int u_84, .int u_85])), (tk, .inr (10, [.ref tp, .int u_86, .int u_87, .int u_88, .int u_89])), (tp, .inr (9, [.ref by_, .int le])), (by_, .inl (E.2.1 0, 800, .inl f)), (into, .inr (1, [.ref bx, .int (nI bn), .int lc, .int mf, .int li])), (bx, .inl (E.2.1 0, 72, .inl f_81))]) [2, 3, 4, 5, 0, 1] (by decide) rfl
                exact W.zret (v := 0) hx hb hr (by decide) (fun t ht hW => ⟨⟨0, (u_84, u_85, u_86, u_87, u_88, u_89, bn, lc, mf, f_81), rfl, Or.inl rfl, (by omega), by rw [ht]; exact hP9, hD9⟩, hS.F ht⟩) hS.2.2 dX6_readBox_52
            · refine lv_iconst (v := 0) hx hb dX6_readBox_70 (by decide) ?_
              have hP9 := hP.sub (ws' := [(h0, .inr (6, [.ref tk, .int u_72, .int u_73])), (tk, .inr (10, [.ref tp, .int u_74, .int u_75, .int u_76, .int u_77])), (tp, .inr (9, [.ref by_, .int le])), (by_, .inl (E.2.1 0, 800, .inl f)), (into, .inr (1, [.ref bx, .int (nI bn), .int lc, .int mf, .int li])), (bx, .inl (E.2.1 0, 72, .inl f_59))]) [2, 3, 4, 5, 0, 1] rfl
              have hD9 := hD.sub (ws' := [(h0, .inr (6, [.ref tk, .int u_72, .int u_73])), (tk, .inr (10, [.ref tp, .int u_74, .int u_75, .int u_76, .int u_77])), (tp, .inr (9, [.ref by_, .int le])), (by_, .inl (E.2.1 0, 800, .inl f)), (into, .inr (1, [.ref bx, .int (nI bn), .int lc, .int mf, .int li])), (bx, .inl (E.2.1 0, 72, .inl f_59))]) [2, 3, 4, 5, 0, 1] (by decide) rfl
              exact W.zret (v := 0) hx hb hr (by decide) (fun t ht hW => ⟨⟨0, (u_72, u_73, u_74, u_75, u_76, u_77, bn, lc, mf, f_59), rfl, Or.inl rfl, (by omega), by rw [ht]; exact hP9, hD9⟩, hS.F ht⟩) hS.2.2 dX6_readBox_71
        · refine lv_iconst (v := 0) hx hb dX6_readBox_70 (by decide) ?_
          have hP9 := hP.sub (ws' := [(h0, .inr (6, [.ref tk, .int u_50, .int u_51])), (tk, .inr (10, [.ref tp, .int u_52, .int u_53, .int u_54, .int u_55])), (tp, .inr (9, [.ref by_, .int le])), (by_, .inl (E.2.1 0, 800, .inl f)), (into, .inr (1, [.ref bx, .int (nI bn), .int lc, .int mf, .int li])), (bx, .inl (E.2.1 0, 72, .inl f_46))]) [2, 3, 4, 5, 0, 1] rfl
          have hD9 := hD.sub (ws' := [(h0, .inr (6, [.ref tk, .int u_50, .int u_51])), (tk, .inr (10, [.ref tp, .int u_52, .int u_53, .int u_54, .int u_55])), (tp, .inr (9, [.ref by_, .int le])), (by_, .inl (E.2.1 0, 800, .inl f)), (into, .inr (1, [.ref bx, .int (nI bn), .int lc, .int mf, .int li])), (bx, .inl (E.2.1 0, 72, .inl f_46))]) [2, 3, 4, 5, 0, 1] (by decide) rfl
          exact W.zret (v := 0) hx hb hr (by decide) (fun t ht hW => ⟨⟨0, (u_50, u_51, u_52, u_53, u_54, u_55, bn, lc, mf, f_46), rfl, Or.inl rfl, (by omega), by rw [ht]; exact hP9, hD9⟩, hS.F ht⟩) hS.2.2 dX6_readBox_71
      · refine lv_iconst (v := 0) hx hb dX6_readBox_70 (by decide) ?_
        have hP9 := hP.sub (ws' := [(h0, .inr (6, [.ref tk, .int u_37, .int u_38])), (tk, .inr (10, [.ref tp, .int u_39, .int u_40, .int u_41, .int u_42])), (tp, .inr (9, [.ref by_, .int le])), (by_, .inl (E.2.1 0, 800, .inl f)), (into, .inr (1, [.ref bx, .int (nI bn), .int lc, .int mf, .int li])), (bx, .inl (E.2.1 0, 72, .inl f_33))]) [2, 3, 4, 5, 0, 1] rfl
        have hD9 := hD.sub (ws' := [(h0, .inr (6, [.ref tk, .int u_37, .int u_38])), (tk, .inr (10, [.ref tp, .int u_39, .int u_40, .int u_41, .int u_42])), (tp, .inr (9, [.ref by_, .int le])), (by_, .inl (E.2.1 0, 800, .inl f)), (into, .inr (1, [.ref bx, .int (nI bn), .int lc, .int mf, .int li])), (bx, .inl (E.2.1 0, 72, .inl f_33))]) [2, 3, 4, 5, 0, 1] (by decide) rfl
        exact W.zret (v := 0) hx hb hr (by decide) (fun t ht hW => ⟨⟨0, (u_37, u_38, u_39, u_40, u_41, u_42, bn, lc, mf, f_33), rfl, Or.inl rfl, (by omega), by rw [ht]; exact hP9, hD9⟩, hS.F ht⟩) hS.2.2 dX6_readBox_71
    · refine lv_iconst (v := 0) hx hb dX6_readBox_70 (by decide) ?_
      have hP9 := hP.sub (ws' := [(h0, .inr (6, [.ref tk, .int u_24, .int u_25])), (tk, .inr (10, [.ref tp, .int u_26, .int u_27, .int u_28, .int u_29])), (tp, .inr (9, [.ref by_, .int le])), (by_, .inl (E.2.1 0, 800, .inl f)), (into, .inr (1, [.ref bx, .int (nI bn), .int lc, .int mf, .int li])), (bx, .inl (E.2.1 0, 72, .inl f_20))]) [2, 3, 4, 5, 0, 1] rfl
      have hD9 := hD.sub (ws' := [(h0, .inr (6, [.ref tk, .int u_24, .int u_25])), (tk, .inr (10, [.ref tp, .int u_26, .int u_27, .int u_28, .int u_29])), (tp, .inr (9, [.ref by_, .int le])), (by_, .inl (E.2.1 0, 800, .inl f)), (into, .inr (1, [.ref bx, .int (nI bn), .int lc, .int mf, .int li])), (bx, .inl (E.2.1 0, 72, .inl f_20))]) [2, 3, 4, 5, 0, 1] (by decide) rfl
      exact W.zret (v := 0) hx hb hr (by decide) (fun t ht hW => ⟨⟨0, (u_24, u_25, u_26, u_27, u_28, u_29, bn, lc, mf, f_20), rfl, Or.inl rfl, (by omega), by rw [ht]; exact hP9, hD9⟩, hS.F ht⟩) hS.2.2 dX6_readBox_71
  · refine lv_iconst (v := 0) hx hb dX6_readBox_70 (by decide) ?_
    have hP9 := hP.sub (ws' := [(h0, .inr (6, [.ref tk, .int u_11, .int u_12])), (tk, .inr (10, [.ref tp, .int u_13, .int u_14, .int u_15, .int u_16])), (tp, .inr (9, [.ref by_, .int le])), (by_, .inl (E.2.1 0, 800, .inl f)), (into, .inr (1, [.ref bx, .int (nI bn), .int lc, .int mf, .int li])), (bx, .inl (E.2.1 0, 72, .inl fx))]) [2, 3, 4, 5, 0, 1] rfl
    have hD9 := hD.sub (ws' := [(h0, .inr (6, [.ref tk, .int u_11, .int u_12])), (tk, .inr (10, [.ref tp, .int u_13, .int u_14, .int u_15, .int u_16])), (tp, .inr (9, [.ref by_, .int le])), (by_, .inl (E.2.1 0, 800, .inl f)), (into, .inr (1, [.ref bx, .int (nI bn), .int lc, .int mf, .int li])), (bx, .inl (E.2.1 0, 72, .inl fx))]) [2, 3, 4, 5, 0, 1] (by decide) rfl
    exact W.zret (v := 0) hx hb hr (by decide) (fun t ht hW => ⟨⟨0, (u_11, u_12, u_13, u_14, u_15, u_16, bn, lc, mf, fx), rfl, Or.inl rfl, (by omega), by rw [ht]; exact hP9, hD9⟩, hS.F ht⟩) hS.2.2 dX6_readBox_71
set_option maxHeartbeats 4000000 in
set_option maxRecDepth 100000 in
theorem c_X6_readCrew (l : Launch) (E : vE) (h0 : Nat) (tk : Nat) (tp : Nat) (by_ : Nat) (fk : Int32) (fq : Int32) (kd : Int32) (sa : Int32) (nu : Int32) (be : Int32) (le : Int32) (f : Nat → Int32) (into : Nat) (bx : Nat) (bn : Nat) (lc : Int32) (mf : Int32) (li : Int32) (fx : Nat → Int32) (sz : Nat) (hbn : bn ≤ 12) : Met l yX6_readCrew wsX6_readCrew ({ frames := 6, cells := 0, slots := 0, locals := 129 }) (pcW E [.ref h0, .ref into] sz [(h0, .inr (6, [.ref tk, .int fk, .int fq])), (tk, .inr (10, [.ref tp, .int kd, .int sa, .int nu, .int be])), (tp, .inr (9, [.ref by_, .int le])), (by_, .inl (E.2.1 0, 800, .inl f)), (into, .inr (1, [.ref bx, .int (nI bn), .int lc, .int mf, .int li])), (bx, .inl (E.2.1 0, 72, .inl fx))]) (va_Qi (fun (r : Int32) (u : Int32 × Int32 × Int32 × Int32 × Int32 × Int32 × Nat × Int32 × Int32 × (Nat → Int32)) => match u with | (fk2, fq2, kd2, sa2, nu2, be2, bn2, lc2, mf2, fx2) => r = 0 ∨ r = 1) (fun (u : Int32 × Int32 × Int32 × Int32 × Int32 × Int32 × Nat × Int32 × Int32 × (Nat → Int32)) (t : State) => match u with | (fk2, fq2, kd2, sa2, nu2, be2, bn2, lc2, mf2, fx2) => (bn2 ≤ 12) ∧ wB E (va_A [(h0, .inr (6, [.ref tk, .int fk, .int fq])), (tk, .inr (10, [.ref tp, .int kd, .int sa, .int nu, .int be])), (tp, .inr (9, [.ref by_, .int le])), (by_, .inl (E.2.1 0, 800, .inl f)), (into, .inr (1, [.ref bx, .int (nI bn), .int lc, .int mf, .int li])), (bx, .inl (E.2.1 0, 72, .inl fx))] sz) [(h0, .inr (6, [.ref tk, .int fk2, .int fq2])), (tk, .inr (10, [.ref tp, .int kd2, .int sa2, .int nu2, .int be2])), (tp, .inr (9, [.ref by_, .int le])), (by_, .inl (E.2.1 0, 800, .inl f)), (into, .inr (1, [.ref bx, .int (nI bn2), .int lc2, .int mf2, .int li])), (bx, .inl (E.2.1 0, 72, .inl fx2))] t) (va_A [(h0, .inr (6, [.ref tk, .int fk, .int fq])), (tk, .inr (10, [.ref tp, .int kd, .int sa, .int nu, .int be])), (tp, .inr (9, [.ref by_, .int le])), (by_, .inl (E.2.1 0, 800, .inl f)), (into, .inr (1, [.ref bx, .int (nI bn), .int lc, .int mf, .int li])), (bx, .inl (E.2.1 0, 72, .inl fx))] sz)) 0 0 (va_A [(h0, .inr (6, [.ref tk, .int fk, .int fq])), (tk, .inr (10, [.ref tp, .int kd, .int sa, .int nu, .int be])), (tp, .inr (9, [.ref by_, .int le])), (by_, .inl (E.2.1 0, 800, .inl f)), (into, .inr (1, [.ref bx, .int (nI bn), .int lc, .int mf, .int li])), (bx, .inl (E.2.1 0, 72, .inl fx))] sz) := by
  refine Met.ofW (cc := cX6_readCrew) (maxL := 2) (ret := (some .boolean)) (by decide) rfl ?_
  intro p e s m args below meth c s₁ B hml hv
  obtain ⟨rfl, hsz, hP, hkn, hD0, hst⟩ := hv
  have hx := B.exec
  have hb := B.bytes
  have hr := B.returns
  have hts := atoms_spec (ws := wsX6_readCrew) B.pre
  have hown : s.vm.findClass RX6 = some m.cls := findClass_of_methodNamed B.named
  have hlocks := B.notSynchronized
  subst hsz
  have hD := hD0.self (sz := s.heap.size)
  have hK := hkn.1
  have hAO := hkn.2.2.1
  generalize hAe : va_A [(h0, .inr (6, [.ref tk, .int fk, .int fq])), (tk, .inr (10, [.ref tp, .int kd, .int sa, .int nu, .int be])), (tp, .inr (9, [.ref by_, .int le])), (by_, .inl (E.2.1 0, 800, .inl f)), (into, .inr (1, [.ref bx, .int (nI bn), .int lc, .int mf, .int li])), (bx, .inl (E.2.1 0, 72, .inl fx))] s.heap.size = A at hD hst ⊢
  have hA : ∀ q : Nat, s.heap.size ≤ q → A q := fun q h => by rw [← hAe]; exact Or.inr h
  have hS : va_S A s.heap s.heap [] := va_S.rf
  have hP : va_P E.1 vwCl [(h0, .inr (6, [.ref tk, .int fk, .int fq])), (tk, .inr (10, [.ref tp, .int kd, .int sa, .int nu, .int be])), (tp, .inr (9, [.ref by_, .int le])), (by_, .inl (E.2.1 0, 800, .inl f)), (into, .inr (1, [.ref bx, .int (nI bn), .int lc, .int mf, .int li])), (bx, .inl (E.2.1 0, 72, .inl fx))] s.heap := hP
  have hl := lv_entry ([.ref h0, .ref into]) (n := 2) (Nat.le_of_ble_eq_true rfl)
  rw [lg_entry_eq]
  generalize (lg_sl ([.ref h0, .ref into]) ++ List.replicate (2 - (lg_sl ([.ref h0, .ref into])).length) Slot.unset).toArray = ls at hl ⊢
  have hl : lv_has ls 2 [(0, .ref h0), (1, .ref into)] := hl
  have fl23 := hts (.fieldLink RX6 23 "BoatsHome$Reader" "tokens" "LBoatsHome$Tokens;") (by first | exact List.mem_of_getElem? (i := 1) rfl | decide +kernel)
  have fl124 := hts (.fieldLink RX6 124 "BoatsHome$Cover" "leastCrew" "I") (by first | exact List.mem_of_getElem? (i := 2) rfl | decide +kernel)
  have inX1 : ∀ w ∈ u_ws RX1 TX1 5, w ∈ wsX6_readCrew := by first | exact fun w h9 => (List.mem_cons_of_mem _ (List.mem_append_left _ (List.mem_append_left _ (List.mem_append_right _ h9)))) | decide +kernel
  have inX6 : ∀ w ∈ u_ws RX6 TX6 3, w ∈ wsX6_readCrew := by first | exact fun w h9 => (List.mem_cons_of_mem _ (List.mem_append_left _ (List.mem_append_left _ (List.mem_append_left _ (List.mem_append_right _ h9))))) | decide +kernel
  refine lv_aload_n hx hb dX6_readCrew_0 rfl (lv_at hl 0 rfl) ?_
  refine va_get (D := E.1) (ci := 6) (v := .ref tk) (C := RX6) (T := TX6) (N := 3) hx hb hts inX6 hown hK hP 0 rfl rfl 0 (by decide) fl23 (fun _ h9 => h9) rfl dX6_readCrew_1 ?_
  have hPc := hP.sub (ws' := [(tk, .inr (10, [.ref tp, .int kd, .int sa, .int nu, .int be])), (tp, .inr (9, [.ref by_, .int le])), (by_, .inl (E.2.1 0, 800, .inl f))]) [1, 2, 3] rfl
  have hDc := hD.sub (ws' := [(tk, .inr (10, [.ref tp, .int kd, .int sa, .int nu, .int be])), (tp, .inr (9, [.ref by_, .int le])), (by_, .inl (E.2.1 0, 800, .inl f))]) [1, 2, 3] (by decide) rfl
  have hFc := va_free (wc := [(tk, .inr (10, [.ref tp, .int kd, .int sa, .int nu, .int be])), (tp, .inr (9, [.ref by_, .int le])), (by_, .inl (E.2.1 0, 800, .inl f))]) hD hS hA [1, 2, 3] rfl
  refine va_callv (va_runV (As := []) (rest := []) ⟨hx, hb, hml, hown, hts⟩ (c_X10_advance l E tk tp by_ kd sa nu be le f s.heap.size ) (cwV 0 hts gX6_readCrew_X10_advance rfl rfl rfl hdV_X10_advance ⟨Nat.le_of_ble_eq_true rfl, Nat.le_of_ble_eq_true rfl⟩) ⟨pcW_blind, va_recv hK hPc (ci := 10) (q0 := 0) rfl rfl, (pcW_pre hPc hkn hDc hst hS hFc)⟩ rfl rfl hl.1 rfl (lv_room (Nat.le_of_ble_eq_true rfl)) dX6_readCrew_4 ⟨Nat.le_of_ble_eq_true rfl, Nat.le_of_ble_eq_true rfl⟩) hS (fun q _ h => hFc q h) hFc (fun u t H1 locs ht hvm hw_2 hB hz1 hk1 hS => ?_)
  obtain ⟨u_3, u_4, u_5, u_6⟩ := u
  obtain ⟨hP1, hD1⟩ := hB
  rw [ht] at hP1
  try dsimp only at hw_2
  obtain ⟨hP, hD⟩ := va_join (wr := [(h0, .inr (6, [.ref tk, .int fk, .int fq])), (into, .inr (1, [.ref bx, .int (nI bn), .int lc, .int mf, .int li])), (bx, .inl (E.2.1 0, 72, .inl fx))]) (w1 := [(tk, .inr (10, [.ref tp, .int u_3, .int u_4, .int u_5, .int u_6])), (tp, .inr (9, [.ref by_, .int le])), (by_, .inl (E.2.1 0, 800, .inl f))]) hP hD [1, 2, 3] [0, 4, 5] rfl rfl (by decide) (by decide) hk1 hFc hP1 hD1
  generalize H1 = H at hP hS ⊢
  have hP : va_P E.1 vwCl [(h0, .inr (6, [.ref tk, .int fk, .int fq])), (into, .inr (1, [.ref bx, .int (nI bn), .int lc, .int mf, .int li])), (bx, .inl (E.2.1 0, 72, .inl fx)), (tk, .inr (10, [.ref tp, .int u_3, .int u_4, .int u_5, .int u_6])), (tp, .inr (9, [.ref by_, .int le])), (by_, .inl (E.2.1 0, 800, .inl f))] H := hP
  have hD : va_D A [(h0, .inr (6, [.ref tk, .int fk, .int fq])), (into, .inr (1, [.ref bx, .int (nI bn), .int lc, .int mf, .int li])), (bx, .inl (E.2.1 0, 72, .inl fx)), (tk, .inr (10, [.ref tp, .int u_3, .int u_4, .int u_5, .int u_6])), (tp, .inr (9, [.ref by_, .int le])), (by_, .inl (E.2.1 0, 800, .inl f))] := hD
  refine lv_aload_n hx hb dX6_readCrew_7 rfl (lv_at hl 1 rfl) ?_
  refine lv_aload_n hx hb dX6_readCrew_8 rfl (lv_at hl 0 rfl) ?_
  refine lv_bipush (v := 9) hx hb dX6_readCrew_9 (by decide) ?_
  have hPc := hP.sub (ws' := [(h0, .inr (6, [.ref tk, .int fk, .int fq])), (tk, .inr (10, [.ref tp, .int u_3, .int u_4, .int u_5, .int u_6])), (tp, .inr (9, [.ref by_, .int le])), (by_, .inl (E.2.1 0, 800, .inl f))]) [0, 3, 4, 5] rfl
  have hDc := hD.sub (ws' := [(h0, .inr (6, [.ref tk, .int fk, .int fq])), (tk, .inr (10, [.ref tp, .int u_3, .int u_4, .int u_5, .int u_6])), (tp, .inr (9, [.ref by_, .int le])), (by_, .inl (E.2.1 0, 800, .inl f))]) [0, 3, 4, 5] (by decide) rfl
  have hFc := va_free (wc := [(h0, .inr (6, [.ref tk, .int fk, .int fq])), (tk, .inr (10, [.ref tp, .int u_3, .int u_4, .int u_5, .int u_6])), (tp, .inr (9, [.ref by_, .int le])), (by_, .inl (E.2.1 0, 800, .inl f))]) hD hS hA [0, 3, 4, 5] rfl
  refine va_calli (va_runV (As := [.int 9]) (rest := [.ref into]) ⟨hx, hb, hml, hown, hts⟩ (c_X6_takeNumber l E h0 tk tp by_ fk fq u_3 u_4 u_5 u_6 le f 9 H.size ) (cwV 1 hts gX6_readCrew_X6_takeNumber rfl rfl rfl hdV_X6_takeNumber ⟨Nat.le_of_ble_eq_true rfl, Nat.le_of_ble_eq_true rfl⟩) ⟨pcW_blind, va_recv hK hPc (ci := 6) (q0 := 0) rfl rfl, (pcW_pre hPc hkn hDc hst hS hFc)⟩ rfl rfl hl.1 rfl (lv_room (Nat.le_of_ble_eq_true rfl)) dX6_readCrew_11 ⟨Nat.le_of_ble_eq_true rfl, Nat.le_of_ble_eq_true rfl⟩) hS (fun q _ h => hFc q h) hFc (fun r_7 u t H1 locs ht hvm hw_8 hB hz1 hk1 hS => ?_)
  obtain ⟨u_9, u_10, u_11, u_12, u_13, u_14⟩ := u
  obtain ⟨hP1, hD1⟩ := hB
  rw [ht] at hP1
  try dsimp only at hw_8
  obtain ⟨hP, hD⟩ := va_join (wr := [(into, .inr (1, [.ref bx, .int (nI bn), .int lc, .int mf, .int li])), (bx, .inl (E.2.1 0, 72, .inl fx))]) (w1 := [(h0, .inr (6, [.ref tk, .int u_9, .int u_10])), (tk, .inr (10, [.ref tp, .int u_11, .int u_12, .int u_13, .int u_14])), (tp, .inr (9, [.ref by_, .int le])), (by_, .inl (E.2.1 0, 800, .inl f))]) hP hD [0, 3, 4, 5] [1, 2] rfl rfl (by decide) (by decide) hk1 hFc hP1 hD1
  generalize H1 = H at hP hS ⊢
  have hP : va_P E.1 vwCl [(into, .inr (1, [.ref bx, .int (nI bn), .int lc, .int mf, .int li])), (bx, .inl (E.2.1 0, 72, .inl fx)), (h0, .inr (6, [.ref tk, .int u_9, .int u_10])), (tk, .inr (10, [.ref tp, .int u_11, .int u_12, .int u_13, .int u_14])), (tp, .inr (9, [.ref by_, .int le])), (by_, .inl (E.2.1 0, 800, .inl f))] H := hP
  have hD : va_D A [(into, .inr (1, [.ref bx, .int (nI bn), .int lc, .int mf, .int li])), (bx, .inl (E.2.1 0, 72, .inl fx)), (h0, .inr (6, [.ref tk, .int u_9, .int u_10])), (tk, .inr (10, [.ref tp, .int u_11, .int u_12, .int u_13, .int u_14])), (tp, .inr (9, [.ref by_, .int le])), (by_, .inl (E.2.1 0, 800, .inl f))] := hD
  refine va_put (D := E.1) (ci := 1) (v := .int r_7) (ty := .int) (C := RX1) (T := TX1) (N := 5) hx hb hts inX1 tyX1 tyX1_ok nmX1 hown hK hP hD hS 0 rfl rfl 2 (by decide) fl124 (fun _ h9 => h9) rfl (by decide +kernel) rfl rfl (Nat.le_of_ble_eq_true rfl) dX6_readCrew_14 (fun H locs hP hD hS => ?_)
  have hP : va_P E.1 vwCl [(into, .inr (1, [.ref bx, .int (nI bn), .int r_7, .int mf, .int li])), (bx, .inl (E.2.1 0, 72, .inl fx)), (h0, .inr (6, [.ref tk, .int u_9, .int u_10])), (tk, .inr (10, [.ref tp, .int u_11, .int u_12, .int u_13, .int u_14])), (tp, .inr (9, [.ref by_, .int le])), (by_, .inl (E.2.1 0, 800, .inl f))] H := hP
  have hD : va_D A [(into, .inr (1, [.ref bx, .int (nI bn), .int r_7, .int mf, .int li])), (bx, .inl (E.2.1 0, 72, .inl fx)), (h0, .inr (6, [.ref tk, .int u_9, .int u_10])), (tk, .inr (10, [.ref tp, .int u_11, .int u_12, .int u_13, .int u_14])), (tp, .inr (9, [.ref by_, .int le])), (by_, .inl (E.2.1 0, 800, .inl f))] := hD
  refine lv_aload_n hx hb dX6_readCrew_17 rfl (lv_at hl 1 rfl) ?_
  refine va_get (D := E.1) (ci := 1) (v := .int r_7) (C := RX1) (T := TX1) (N := 5) hx hb hts inX1 hown hK hP 0 rfl rfl 2 (by decide) fl124 (fun _ h9 => h9) rfl dX6_readCrew_18 ?_
  refine lv_iconst (v := (-1)) hx hb dX6_readCrew_21 (by decide) ?_
  refine lv_icmp_eq (tgt := 29) hx hb dX6_readCrew_22 (by decide) (fun c_15 => ?_) (fun c_15 => ?_)
  · refine lv_iconst (v := 0) hx hb dX6_readCrew_29 (by decide) ?_
    have hP9 := hP.sub (ws' := [(h0, .inr (6, [.ref tk, .int u_9, .int u_10])), (tk, .inr (10, [.ref tp, .int u_11, .int u_12, .int u_13, .int u_14])), (tp, .inr (9, [.ref by_, .int le])), (by_, .inl (E.2.1 0, 800, .inl f)), (into, .inr (1, [.ref bx, .int (nI bn), .int r_7, .int mf, .int li])), (bx, .inl (E.2.1 0, 72, .inl fx))]) [2, 3, 4, 5, 0, 1] rfl
    have hD9 := hD.sub (ws' := [(h0, .inr (6, [.ref tk, .int u_9, .int u_10])), (tk, .inr (10, [.ref tp, .int u_11, .int u_12, .int u_13, .int u_14])), (tp, .inr (9, [.ref by_, .int le])), (by_, .inl (E.2.1 0, 800, .inl f)), (into, .inr (1, [.ref bx, .int (nI bn), .int r_7, .int mf, .int li])), (bx, .inl (E.2.1 0, 72, .inl fx))]) [2, 3, 4, 5, 0, 1] (by decide) rfl
    exact W.zret (v := 0) hx hb hr (by decide) (fun t ht hW => ⟨⟨0, (u_9, u_10, u_11, u_12, u_13, u_14, bn, r_7, mf, fx), rfl, Or.inl rfl, (by omega), by rw [ht]; exact hP9, hD9⟩, hS.F ht⟩) hS.2.2 dX6_readCrew_30
  · refine lv_iconst (v := 1) hx hb dX6_readCrew_25 (by decide) ?_
    refine lv_goto (tgt := 30) hx hb dX6_readCrew_26 (by decide) ?_
    have hP9 := hP.sub (ws' := [(h0, .inr (6, [.ref tk, .int u_9, .int u_10])), (tk, .inr (10, [.ref tp, .int u_11, .int u_12, .int u_13, .int u_14])), (tp, .inr (9, [.ref by_, .int le])), (by_, .inl (E.2.1 0, 800, .inl f)), (into, .inr (1, [.ref bx, .int (nI bn), .int r_7, .int mf, .int li])), (bx, .inl (E.2.1 0, 72, .inl fx))]) [2, 3, 4, 5, 0, 1] rfl
    have hD9 := hD.sub (ws' := [(h0, .inr (6, [.ref tk, .int u_9, .int u_10])), (tk, .inr (10, [.ref tp, .int u_11, .int u_12, .int u_13, .int u_14])), (tp, .inr (9, [.ref by_, .int le])), (by_, .inl (E.2.1 0, 800, .inl f)), (into, .inr (1, [.ref bx, .int (nI bn), .int r_7, .int mf, .int li])), (bx, .inl (E.2.1 0, 72, .inl fx))]) [2, 3, 4, 5, 0, 1] (by decide) rfl
    exact W.zret (v := 1) hx hb hr (by decide) (fun t ht hW => ⟨⟨1, (u_9, u_10, u_11, u_12, u_13, u_14, bn, r_7, mf, fx), rfl, Or.inr rfl, (by omega), by rw [ht]; exact hP9, hD9⟩, hS.F ht⟩) hS.2.2 dX6_readCrew_30
set_option maxHeartbeats 4000000 in
set_option maxRecDepth 100000 in
theorem c_X6_readForce (l : Launch) (E : vE) (h0 : Nat) (tk : Nat) (tp : Nat) (by_ : Nat) (fk : Int32) (fq : Int32) (kd : Int32) (sa : Int32) (nu : Int32) (be : Int32) (le : Int32) (f : Nat → Int32) (into : Nat) (bx : Nat) (bn : Nat) (lc : Int32) (mf : Int32) (li : Int32) (fx : Nat → Int32) (sz : Nat) (hbn : bn ≤ 12) : Met l yX6_readForce wsX6_readForce ({ frames := 6, cells := 0, slots := 0, locals := 129 }) (pcW E [.ref h0, .ref into] sz [(h0, .inr (6, [.ref tk, .int fk, .int fq])), (tk, .inr (10, [.ref tp, .int kd, .int sa, .int nu, .int be])), (tp, .inr (9, [.ref by_, .int le])), (by_, .inl (E.2.1 0, 800, .inl f)), (into, .inr (1, [.ref bx, .int (nI bn), .int lc, .int mf, .int li])), (bx, .inl (E.2.1 0, 72, .inl fx))]) (va_Qi (fun (r : Int32) (u : Int32 × Int32 × Int32 × Int32 × Int32 × Int32 × Nat × Int32 × Int32 × (Nat → Int32)) => match u with | (fk2, fq2, kd2, sa2, nu2, be2, bn2, lc2, mf2, fx2) => r = 0 ∨ r = 1) (fun (u : Int32 × Int32 × Int32 × Int32 × Int32 × Int32 × Nat × Int32 × Int32 × (Nat → Int32)) (t : State) => match u with | (fk2, fq2, kd2, sa2, nu2, be2, bn2, lc2, mf2, fx2) => (bn2 ≤ 12) ∧ wB E (va_A [(h0, .inr (6, [.ref tk, .int fk, .int fq])), (tk, .inr (10, [.ref tp, .int kd, .int sa, .int nu, .int be])), (tp, .inr (9, [.ref by_, .int le])), (by_, .inl (E.2.1 0, 800, .inl f)), (into, .inr (1, [.ref bx, .int (nI bn), .int lc, .int mf, .int li])), (bx, .inl (E.2.1 0, 72, .inl fx))] sz) [(h0, .inr (6, [.ref tk, .int fk2, .int fq2])), (tk, .inr (10, [.ref tp, .int kd2, .int sa2, .int nu2, .int be2])), (tp, .inr (9, [.ref by_, .int le])), (by_, .inl (E.2.1 0, 800, .inl f)), (into, .inr (1, [.ref bx, .int (nI bn2), .int lc2, .int mf2, .int li])), (bx, .inl (E.2.1 0, 72, .inl fx2))] t) (va_A [(h0, .inr (6, [.ref tk, .int fk, .int fq])), (tk, .inr (10, [.ref tp, .int kd, .int sa, .int nu, .int be])), (tp, .inr (9, [.ref by_, .int le])), (by_, .inl (E.2.1 0, 800, .inl f)), (into, .inr (1, [.ref bx, .int (nI bn), .int lc, .int mf, .int li])), (bx, .inl (E.2.1 0, 72, .inl fx))] sz)) 0 0 (va_A [(h0, .inr (6, [.ref tk, .int fk, .int fq])), (tk, .inr (10, [.ref tp, .int kd, .int sa, .int nu, .int be])), (tp, .inr (9, [.ref by_, .int le])), (by_, .inl (E.2.1 0, 800, .inl f)), (into, .inr (1, [.ref bx, .int (nI bn), .int lc, .int mf, .int li])), (bx, .inl (E.2.1 0, 72, .inl fx))] sz) := by
  refine Met.ofW (cc := cX6_readForce) (maxL := 2) (ret := (some .boolean)) (by decide) rfl ?_
  intro p e s m args below meth c s₁ B hml hv
  obtain ⟨rfl, hsz, hP, hkn, hD0, hst⟩ := hv
  have hx := B.exec
  have hb := B.bytes
  have hr := B.returns
  have hts := atoms_spec (ws := wsX6_readForce) B.pre
  have hown : s.vm.findClass RX6 = some m.cls := findClass_of_methodNamed B.named
  have hlocks := B.notSynchronized
  subst hsz
  have hD := hD0.self (sz := s.heap.size)
  have hK := hkn.1
  have hAO := hkn.2.2.1
  generalize hAe : va_A [(h0, .inr (6, [.ref tk, .int fk, .int fq])), (tk, .inr (10, [.ref tp, .int kd, .int sa, .int nu, .int be])), (tp, .inr (9, [.ref by_, .int le])), (by_, .inl (E.2.1 0, 800, .inl f)), (into, .inr (1, [.ref bx, .int (nI bn), .int lc, .int mf, .int li])), (bx, .inl (E.2.1 0, 72, .inl fx))] s.heap.size = A at hD hst ⊢
  have hA : ∀ q : Nat, s.heap.size ≤ q → A q := fun q h => by rw [← hAe]; exact Or.inr h
  have hS : va_S A s.heap s.heap [] := va_S.rf
  have hP : va_P E.1 vwCl [(h0, .inr (6, [.ref tk, .int fk, .int fq])), (tk, .inr (10, [.ref tp, .int kd, .int sa, .int nu, .int be])), (tp, .inr (9, [.ref by_, .int le])), (by_, .inl (E.2.1 0, 800, .inl f)), (into, .inr (1, [.ref bx, .int (nI bn), .int lc, .int mf, .int li])), (bx, .inl (E.2.1 0, 72, .inl fx))] s.heap := hP
  have hl := lv_entry ([.ref h0, .ref into]) (n := 2) (Nat.le_of_ble_eq_true rfl)
  rw [lg_entry_eq]
  generalize (lg_sl ([.ref h0, .ref into]) ++ List.replicate (2 - (lg_sl ([.ref h0, .ref into])).length) Slot.unset).toArray = ls at hl ⊢
  have hl : lv_has ls 2 [(0, .ref h0), (1, .ref into)] := hl
  have fl23 := hts (.fieldLink RX6 23 "BoatsHome$Reader" "tokens" "LBoatsHome$Tokens;") (by first | exact List.mem_of_getElem? (i := 1) rfl | decide +kernel)
  have fl130 := hts (.fieldLink RX6 130 "BoatsHome$Cover" "mostForce" "I") (by first | exact List.mem_of_getElem? (i := 2) rfl | decide +kernel)
  have inX1 : ∀ w ∈ u_ws RX1 TX1 5, w ∈ wsX6_readForce := by first | exact fun w h9 => (List.mem_cons_of_mem _ (List.mem_append_left _ (List.mem_append_left _ (List.mem_append_right _ h9)))) | decide +kernel
  have inX6 : ∀ w ∈ u_ws RX6 TX6 3, w ∈ wsX6_readForce := by first | exact fun w h9 => (List.mem_cons_of_mem _ (List.mem_append_left _ (List.mem_append_left _ (List.mem_append_left _ (List.mem_append_right _ h9))))) | decide +kernel
  refine lv_aload_n hx hb dX6_readForce_0 rfl (lv_at hl 0 rfl) ?_
  refine va_get (D := E.1) (ci := 6) (v := .ref tk) (C := RX6) (T := TX6) (N := 3) hx hb hts inX6 hown hK hP 0 rfl rfl 0 (by decide) fl23 (fun _ h9 => h9) rfl dX6_readForce_1 ?_
  have hPc := hP.sub (ws' := [(tk, .inr (10, [.ref tp, .int kd, .int sa, .int nu, .int be])), (tp, .inr (9, [.ref by_, .int le])), (by_, .inl (E.2.1 0, 800, .inl f))]) [1, 2, 3] rfl
  have hDc := hD.sub (ws' := [(tk, .inr (10, [.ref tp, .int kd, .int sa, .int nu, .int be])), (tp, .inr (9, [.ref by_, .int le])), (by_, .inl (E.2.1 0, 800, .inl f))]) [1, 2, 3] (by decide) rfl
  have hFc := va_free (wc := [(tk, .inr (10, [.ref tp, .int kd, .int sa, .int nu, .int be])), (tp, .inr (9, [.ref by_, .int le])), (by_, .inl (E.2.1 0, 800, .inl f))]) hD hS hA [1, 2, 3] rfl
  refine va_callv (va_runV (As := []) (rest := []) ⟨hx, hb, hml, hown, hts⟩ (c_X10_advance l E tk tp by_ kd sa nu be le f s.heap.size ) (cwV 0 hts gX6_readForce_X10_advance rfl rfl rfl hdV_X10_advance ⟨Nat.le_of_ble_eq_true rfl, Nat.le_of_ble_eq_true rfl⟩) ⟨pcW_blind, va_recv hK hPc (ci := 10) (q0 := 0) rfl rfl, (pcW_pre hPc hkn hDc hst hS hFc)⟩ rfl rfl hl.1 rfl (lv_room (Nat.le_of_ble_eq_true rfl)) dX6_readForce_4 ⟨Nat.le_of_ble_eq_true rfl, Nat.le_of_ble_eq_true rfl⟩) hS (fun q _ h => hFc q h) hFc (fun u t H1 locs ht hvm hw_2 hB hz1 hk1 hS => ?_)
  obtain ⟨u_3, u_4, u_5, u_6⟩ := u
  obtain ⟨hP1, hD1⟩ := hB
  rw [ht] at hP1
  try dsimp only at hw_2
  obtain ⟨hP, hD⟩ := va_join (wr := [(h0, .inr (6, [.ref tk, .int fk, .int fq])), (into, .inr (1, [.ref bx, .int (nI bn), .int lc, .int mf, .int li])), (bx, .inl (E.2.1 0, 72, .inl fx))]) (w1 := [(tk, .inr (10, [.ref tp, .int u_3, .int u_4, .int u_5, .int u_6])), (tp, .inr (9, [.ref by_, .int le])), (by_, .inl (E.2.1 0, 800, .inl f))]) hP hD [1, 2, 3] [0, 4, 5] rfl rfl (by decide) (by decide) hk1 hFc hP1 hD1
  generalize H1 = H at hP hS ⊢
  have hP : va_P E.1 vwCl [(h0, .inr (6, [.ref tk, .int fk, .int fq])), (into, .inr (1, [.ref bx, .int (nI bn), .int lc, .int mf, .int li])), (bx, .inl (E.2.1 0, 72, .inl fx)), (tk, .inr (10, [.ref tp, .int u_3, .int u_4, .int u_5, .int u_6])), (tp, .inr (9, [.ref by_, .int le])), (by_, .inl (E.2.1 0, 800, .inl f))] H := hP
  have hD : va_D A [(h0, .inr (6, [.ref tk, .int fk, .int fq])), (into, .inr (1, [.ref bx, .int (nI bn), .int lc, .int mf, .int li])), (bx, .inl (E.2.1 0, 72, .inl fx)), (tk, .inr (10, [.ref tp, .int u_3, .int u_4, .int u_5, .int u_6])), (tp, .inr (9, [.ref by_, .int le])), (by_, .inl (E.2.1 0, 800, .inl f))] := hD
  refine lv_aload_n hx hb dX6_readForce_7 rfl (lv_at hl 1 rfl) ?_
  refine lv_aload_n hx hb dX6_readForce_8 rfl (lv_at hl 0 rfl) ?_
  refine lv_bipush (v := 9) hx hb dX6_readForce_9 (by decide) ?_
  have hPc := hP.sub (ws' := [(h0, .inr (6, [.ref tk, .int fk, .int fq])), (tk, .inr (10, [.ref tp, .int u_3, .int u_4, .int u_5, .int u_6])), (tp, .inr (9, [.ref by_, .int le])), (by_, .inl (E.2.1 0, 800, .inl f))]) [0, 3, 4, 5] rfl
  have hDc := hD.sub (ws' := [(h0, .inr (6, [.ref tk, .int fk, .int fq])), (tk, .inr (10, [.ref tp, .int u_3, .int u_4, .int u_5, .int u_6])), (tp, .inr (9, [.ref by_, .int le])), (by_, .inl (E.2.1 0, 800, .inl f))]) [0, 3, 4, 5] (by decide) rfl
  have hFc := va_free (wc := [(h0, .inr (6, [.ref tk, .int fk, .int fq])), (tk, .inr (10, [.ref tp, .int u_3, .int u_4, .int u_5, .int u_6])), (tp, .inr (9, [.ref by_, .int le])), (by_, .inl (E.2.1 0, 800, .inl f))]) hD hS hA [0, 3, 4, 5] rfl
  refine va_calli (va_runV (As := [.int 9]) (rest := [.ref into]) ⟨hx, hb, hml, hown, hts⟩ (c_X6_takeNumber l E h0 tk tp by_ fk fq u_3 u_4 u_5 u_6 le f 9 H.size ) (cwV 1 hts gX6_readForce_X6_takeNumber rfl rfl rfl hdV_X6_takeNumber ⟨Nat.le_of_ble_eq_true rfl, Nat.le_of_ble_eq_true rfl⟩) ⟨pcW_blind, va_recv hK hPc (ci := 6) (q0 := 0) rfl rfl, (pcW_pre hPc hkn hDc hst hS hFc)⟩ rfl rfl hl.1 rfl (lv_room (Nat.le_of_ble_eq_true rfl)) dX6_readForce_11 ⟨Nat.le_of_ble_eq_true rfl, Nat.le_of_ble_eq_true rfl⟩) hS (fun q _ h => hFc q h) hFc (fun r_7 u t H1 locs ht hvm hw_8 hB hz1 hk1 hS => ?_)
  obtain ⟨u_9, u_10, u_11, u_12, u_13, u_14⟩ := u
  obtain ⟨hP1, hD1⟩ := hB
  rw [ht] at hP1
  try dsimp only at hw_8
  obtain ⟨hP, hD⟩ := va_join (wr := [(into, .inr (1, [.ref bx, .int (nI bn), .int lc, .int mf, .int li])), (bx, .inl (E.2.1 0, 72, .inl fx))]) (w1 := [(h0, .inr (6, [.ref tk, .int u_9, .int u_10])), (tk, .inr (10, [.ref tp, .int u_11, .int u_12, .int u_13, .int u_14])), (tp, .inr (9, [.ref by_, .int le])), (by_, .inl (E.2.1 0, 800, .inl f))]) hP hD [0, 3, 4, 5] [1, 2] rfl rfl (by decide) (by decide) hk1 hFc hP1 hD1
  generalize H1 = H at hP hS ⊢
  have hP : va_P E.1 vwCl [(into, .inr (1, [.ref bx, .int (nI bn), .int lc, .int mf, .int li])), (bx, .inl (E.2.1 0, 72, .inl fx)), (h0, .inr (6, [.ref tk, .int u_9, .int u_10])), (tk, .inr (10, [.ref tp, .int u_11, .int u_12, .int u_13, .int u_14])), (tp, .inr (9, [.ref by_, .int le])), (by_, .inl (E.2.1 0, 800, .inl f))] H := hP
  have hD : va_D A [(into, .inr (1, [.ref bx, .int (nI bn), .int lc, .int mf, .int li])), (bx, .inl (E.2.1 0, 72, .inl fx)), (h0, .inr (6, [.ref tk, .int u_9, .int u_10])), (tk, .inr (10, [.ref tp, .int u_11, .int u_12, .int u_13, .int u_14])), (tp, .inr (9, [.ref by_, .int le])), (by_, .inl (E.2.1 0, 800, .inl f))] := hD
  refine va_put (D := E.1) (ci := 1) (v := .int r_7) (ty := .int) (C := RX1) (T := TX1) (N := 5) hx hb hts inX1 tyX1 tyX1_ok nmX1 hown hK hP hD hS 0 rfl rfl 3 (by decide) fl130 (fun _ h9 => h9) rfl (by decide +kernel) rfl rfl (Nat.le_of_ble_eq_true rfl) dX6_readForce_14 (fun H locs hP hD hS => ?_)
  have hP : va_P E.1 vwCl [(into, .inr (1, [.ref bx, .int (nI bn), .int lc, .int r_7, .int li])), (bx, .inl (E.2.1 0, 72, .inl fx)), (h0, .inr (6, [.ref tk, .int u_9, .int u_10])), (tk, .inr (10, [.ref tp, .int u_11, .int u_12, .int u_13, .int u_14])), (tp, .inr (9, [.ref by_, .int le])), (by_, .inl (E.2.1 0, 800, .inl f))] H := hP
  have hD : va_D A [(into, .inr (1, [.ref bx, .int (nI bn), .int lc, .int r_7, .int li])), (bx, .inl (E.2.1 0, 72, .inl fx)), (h0, .inr (6, [.ref tk, .int u_9, .int u_10])), (tk, .inr (10, [.ref tp, .int u_11, .int u_12, .int u_13, .int u_14])), (tp, .inr (9, [.ref by_, .int le])), (by_, .inl (E.2.1 0, 800, .inl f))] := hD
  refine lv_aload_n hx hb dX6_readForce_17 rfl (lv_at hl 1 rfl) ?_
  refine va_get (D := E.1) (ci := 1) (v := .int r_7) (C := RX1) (T := TX1) (N := 5) hx hb hts inX1 hown hK hP 0 rfl rfl 3 (by decide) fl130 (fun _ h9 => h9) rfl dX6_readForce_18 ?_
  refine lv_iconst (v := (-1)) hx hb dX6_readForce_21 (by decide) ?_
  refine lv_icmp_eq (tgt := 29) hx hb dX6_readForce_22 (by decide) (fun c_15 => ?_) (fun c_15 => ?_)
  · refine lv_iconst (v := 0) hx hb dX6_readForce_29 (by decide) ?_
    have hP9 := hP.sub (ws' := [(h0, .inr (6, [.ref tk, .int u_9, .int u_10])), (tk, .inr (10, [.ref tp, .int u_11, .int u_12, .int u_13, .int u_14])), (tp, .inr (9, [.ref by_, .int le])), (by_, .inl (E.2.1 0, 800, .inl f)), (into, .inr (1, [.ref bx, .int (nI bn), .int lc, .int r_7, .int li])), (bx, .inl (E.2.1 0, 72, .inl fx))]) [2, 3, 4, 5, 0, 1] rfl
    have hD9 := hD.sub (ws' := [(h0, .inr (6, [.ref tk, .int u_9, .int u_10])), (tk, .inr (10, [.ref tp, .int u_11, .int u_12, .int u_13, .int u_14])), (tp, .inr (9, [.ref by_, .int le])), (by_, .inl (E.2.1 0, 800, .inl f)), (into, .inr (1, [.ref bx, .int (nI bn), .int lc, .int r_7, .int li])), (bx, .inl (E.2.1 0, 72, .inl fx))]) [2, 3, 4, 5, 0, 1] (by decide) rfl
    exact W.zret (v := 0) hx hb hr (by decide) (fun t ht hW => ⟨⟨0, (u_9, u_10, u_11, u_12, u_13, u_14, bn, lc, r_7, fx), rfl, Or.inl rfl, (by omega), by rw [ht]; exact hP9, hD9⟩, hS.F ht⟩) hS.2.2 dX6_readForce_30
  · refine lv_iconst (v := 1) hx hb dX6_readForce_25 (by decide) ?_
    refine lv_goto (tgt := 30) hx hb dX6_readForce_26 (by decide) ?_
    have hP9 := hP.sub (ws' := [(h0, .inr (6, [.ref tk, .int u_9, .int u_10])), (tk, .inr (10, [.ref tp, .int u_11, .int u_12, .int u_13, .int u_14])), (tp, .inr (9, [.ref by_, .int le])), (by_, .inl (E.2.1 0, 800, .inl f)), (into, .inr (1, [.ref bx, .int (nI bn), .int lc, .int r_7, .int li])), (bx, .inl (E.2.1 0, 72, .inl fx))]) [2, 3, 4, 5, 0, 1] rfl
    have hD9 := hD.sub (ws' := [(h0, .inr (6, [.ref tk, .int u_9, .int u_10])), (tk, .inr (10, [.ref tp, .int u_11, .int u_12, .int u_13, .int u_14])), (tp, .inr (9, [.ref by_, .int le])), (by_, .inl (E.2.1 0, 800, .inl f)), (into, .inr (1, [.ref bx, .int (nI bn), .int lc, .int r_7, .int li])), (bx, .inl (E.2.1 0, 72, .inl fx))]) [2, 3, 4, 5, 0, 1] (by decide) rfl
    exact W.zret (v := 1) hx hb hr (by decide) (fun t ht hW => ⟨⟨1, (u_9, u_10, u_11, u_12, u_13, u_14, bn, lc, r_7, fx), rfl, Or.inr rfl, (by omega), by rw [ht]; exact hP9, hD9⟩, hS.F ht⟩) hS.2.2 dX6_readForce_30
set_option maxHeartbeats 4000000 in
set_option maxRecDepth 100000 in
theorem c_X6_readLine (l : Launch) (E : vE) (h0 : Nat) (tk : Nat) (tp : Nat) (by_ : Nat) (fk : Int32) (fq : Int32) (kd : Int32) (sa : Int32) (nu : Int32) (be : Int32) (le : Int32) (f : Nat → Int32) (into : Nat) (bx : Nat) (bn : Nat) (lc : Int32) (mf : Int32) (li : Int32) (fx : Nat → Int32) (sz : Nat) (hbn : bn ≤ 12) : Met l yX6_readLine wsX6_readLine ({ frames := 7, cells := 0, slots := 0, locals := 153 }) (pcW E [.ref h0, .ref into] sz [(h0, .inr (6, [.ref tk, .int fk, .int fq])), (tk, .inr (10, [.ref tp, .int kd, .int sa, .int nu, .int be])), (tp, .inr (9, [.ref by_, .int le])), (by_, .inl (E.2.1 0, 800, .inl f)), (into, .inr (1, [.ref bx, .int (nI bn), .int lc, .int mf, .int li])), (bx, .inl (E.2.1 0, 72, .inl fx))]) (va_Qi (fun (r : Int32) (u : Int32 × Int32 × Int32 × Int32 × Int32 × Int32 × Nat × Int32 × Int32 × (Nat → Int32)) => match u with | (fk2, fq2, kd2, sa2, nu2, be2, bn2, lc2, mf2, fx2) => r = 0 ∨ r = 1) (fun (u : Int32 × Int32 × Int32 × Int32 × Int32 × Int32 × Nat × Int32 × Int32 × (Nat → Int32)) (t : State) => match u with | (fk2, fq2, kd2, sa2, nu2, be2, bn2, lc2, mf2, fx2) => (bn2 ≤ 12) ∧ wB E (va_A [(h0, .inr (6, [.ref tk, .int fk, .int fq])), (tk, .inr (10, [.ref tp, .int kd, .int sa, .int nu, .int be])), (tp, .inr (9, [.ref by_, .int le])), (by_, .inl (E.2.1 0, 800, .inl f)), (into, .inr (1, [.ref bx, .int (nI bn), .int lc, .int mf, .int li])), (bx, .inl (E.2.1 0, 72, .inl fx))] sz) [(h0, .inr (6, [.ref tk, .int fk2, .int fq2])), (tk, .inr (10, [.ref tp, .int kd2, .int sa2, .int nu2, .int be2])), (tp, .inr (9, [.ref by_, .int le])), (by_, .inl (E.2.1 0, 800, .inl f)), (into, .inr (1, [.ref bx, .int (nI bn2), .int lc2, .int mf2, .int li])), (bx, .inl (E.2.1 0, 72, .inl fx2))] t) (va_A [(h0, .inr (6, [.ref tk, .int fk, .int fq])), (tk, .inr (10, [.ref tp, .int kd, .int sa, .int nu, .int be])), (tp, .inr (9, [.ref by_, .int le])), (by_, .inl (E.2.1 0, 800, .inl f)), (into, .inr (1, [.ref bx, .int (nI bn), .int lc, .int mf, .int li])), (bx, .inl (E.2.1 0, 72, .inl fx))] sz)) 0 0 (va_A [(h0, .inr (6, [.ref tk, .int fk, .int fq])), (tk, .inr (10, [.ref tp, .int kd, .int sa, .int nu, .int be])), (tp, .inr (9, [.ref by_, .int le])), (by_, .inl (E.2.1 0, 800, .inl f)), (into, .inr (1, [.ref bx, .int (nI bn), .int lc, .int mf, .int li])), (bx, .inl (E.2.1 0, 72, .inl fx))] sz) := by
  refine Met.ofW (cc := cX6_readLine) (maxL := 2) (ret := (some .boolean)) (by decide) rfl ?_
  intro p e s m args below meth c s₁ B hml hv
  obtain ⟨rfl, hsz, hP, hkn, hD0, hst⟩ := hv
  have hx := B.exec
  have hb := B.bytes
  have hr := B.returns
  have hts := atoms_spec (ws := wsX6_readLine) B.pre
  have hown : s.vm.findClass RX6 = some m.cls := findClass_of_methodNamed B.named
  have hlocks := B.notSynchronized
  subst hsz
  have hD := hD0.self (sz := s.heap.size)
  have hK := hkn.1
  have hAO := hkn.2.2.1
  generalize hAe : va_A [(h0, .inr (6, [.ref tk, .int fk, .int fq])), (tk, .inr (10, [.ref tp, .int kd, .int sa, .int nu, .int be])), (tp, .inr (9, [.ref by_, .int le])), (by_, .inl (E.2.1 0, 800, .inl f)), (into, .inr (1, [.ref bx, .int (nI bn), .int lc, .int mf, .int li])), (bx, .inl (E.2.1 0, 72, .inl fx))] s.heap.size = A at hD hst ⊢
  have hA : ∀ q : Nat, s.heap.size ≤ q → A q := fun q h => by rw [← hAe]; exact Or.inr h
  have hS : va_S A s.heap s.heap [] := va_S.rf
  have hP : va_P E.1 vwCl [(h0, .inr (6, [.ref tk, .int fk, .int fq])), (tk, .inr (10, [.ref tp, .int kd, .int sa, .int nu, .int be])), (tp, .inr (9, [.ref by_, .int le])), (by_, .inl (E.2.1 0, 800, .inl f)), (into, .inr (1, [.ref bx, .int (nI bn), .int lc, .int mf, .int li])), (bx, .inl (E.2.1 0, 72, .inl fx))] s.heap := hP
  have hl := lv_entry ([.ref h0, .ref into]) (n := 2) (Nat.le_of_ble_eq_true rfl)
  rw [lg_entry_eq]
  generalize (lg_sl ([.ref h0, .ref into]) ++ List.replicate (2 - (lg_sl ([.ref h0, .ref into])).length) Slot.unset).toArray = ls at hl ⊢
  have hl : lv_has ls 2 [(0, .ref h0), (1, .ref into)] := hl
  have fl23 := hts (.fieldLink RX6 23 "BoatsHome$Reader" "tokens" "LBoatsHome$Tokens;") (by first | exact List.mem_of_getElem? (i := 1) rfl | decide +kernel)
  have fl116 := hts (.fieldLink RX6 116 "BoatsHome$Cover" "boxCount" "I") (by first | exact List.mem_of_getElem? (i := 2) rfl | decide +kernel)
  have fl124 := hts (.fieldLink RX6 124 "BoatsHome$Cover" "leastCrew" "I") (by first | exact List.mem_of_getElem? (i := 3) rfl | decide +kernel)
  have fl130 := hts (.fieldLink RX6 130 "BoatsHome$Cover" "mostForce" "I") (by first | exact List.mem_of_getElem? (i := 4) rfl | decide +kernel)
  have inX1 : ∀ w ∈ u_ws RX1 TX1 5, w ∈ wsX6_readLine := by first | exact fun w h9 => (List.mem_cons_of_mem _ (List.mem_append_left _ (List.mem_append_left _ (List.mem_append_right _ h9)))) | decide +kernel
  have inX6 : ∀ w ∈ u_ws RX6 TX6 3, w ∈ wsX6_readLine := by first | exact fun w h9 => (List.mem_cons_of_mem _ (List.mem_append_left _ (List.mem_append_left _ (List.mem_append_left _ (List.mem_append_right _ h9))))) | decide +kernel
  refine lv_aload_n hx hb dX6_readLine_0 rfl (lv_at hl 0 rfl) ?_
  refine va_get (D := E.1) (ci := 6) (v := .ref tk) (C := RX6) (T := TX6) (N := 3) hx hb hts inX6 hown hK hP 0 rfl rfl 0 (by decide) fl23 (fun _ h9 => h9) rfl dX6_readLine_1 ?_
  refine va_ldcS hx hb hown (hkn.2.2.2 12 (by decide)) dX6_readLine_4 ?_
  have hPc := hP.sub (ws' := [(tk, .inr (10, [.ref tp, .int kd, .int sa, .int nu, .int be])), (tp, .inr (9, [.ref by_, .int le])), (by_, .inl (E.2.1 0, 800, .inl f))]) [1, 2, 3] rfl
  have hDc := hD.sub (ws' := [(tk, .inr (10, [.ref tp, .int kd, .int sa, .int nu, .int be])), (tp, .inr (9, [.ref by_, .int le])), (by_, .inl (E.2.1 0, 800, .inl f))]) [1, 2, 3] (by decide) rfl
  have hFc := va_free (wc := [(tk, .inr (10, [.ref tp, .int kd, .int sa, .int nu, .int be])), (tp, .inr (9, [.ref by_, .int le])), (by_, .inl (E.2.1 0, 800, .inl f))]) hD hS hA [1, 2, 3] rfl
  refine va_calli (va_runV (As := [.ref (E.2.2.1 12)]) (rest := []) ⟨hx, hb, hml, hown, hts⟩ (c_X10_spells l E tk tp by_ kd sa nu be le f 12 s.heap.size (by decide)) (cwV 1 hts gX6_readLine_X10_spells rfl rfl rfl hdV_X10_spells ⟨Nat.le_of_ble_eq_true rfl, Nat.le_of_ble_eq_true rfl⟩) ⟨pcW_blind, va_recv hK hPc (ci := 10) (q0 := 0) rfl rfl, (pcW_pre hPc hkn hDc hst hS hFc)⟩ rfl rfl hl.1 rfl (lv_room (Nat.le_of_ble_eq_true rfl)) dX6_readLine_6 ⟨Nat.le_of_ble_eq_true rfl, Nat.le_of_ble_eq_true rfl⟩) hS (fun q _ h => hFc q h) hFc (fun r_1 u t H1 locs ht hvm hw_2 hB hz1 hk1 hS => ?_)
  obtain ⟨hP1, hD1⟩ := hB
  rw [ht] at hP1
  try dsimp only at hw_2
  obtain ⟨hP, hD⟩ := va_join (wr := [(h0, .inr (6, [.ref tk, .int fk, .int fq])), (into, .inr (1, [.ref bx, .int (nI bn), .int lc, .int mf, .int li])), (bx, .inl (E.2.1 0, 72, .inl fx))]) (w1 := [(tk, .inr (10, [.ref tp, .int kd, .int sa, .int nu, .int be])), (tp, .inr (9, [.ref by_, .int le])), (by_, .inl (E.2.1 0, 800, .inl f))]) hP hD [1, 2, 3] [0, 4, 5] rfl rfl (by decide) (by decide) hk1 hFc hP1 hD1
  generalize H1 = H at hP hS ⊢
  have hP : va_P E.1 vwCl [(h0, .inr (6, [.ref tk, .int fk, .int fq])), (into, .inr (1, [.ref bx, .int (nI bn), .int lc, .int mf, .int li])), (bx, .inl (E.2.1 0, 72, .inl fx)), (tk, .inr (10, [.ref tp, .int kd, .int sa, .int nu, .int be])), (tp, .inr (9, [.ref by_, .int le])), (by_, .inl (E.2.1 0, 800, .inl f))] H := hP
  have hD : va_D A [(h0, .inr (6, [.ref tk, .int fk, .int fq])), (into, .inr (1, [.ref bx, .int (nI bn), .int lc, .int mf, .int li])), (bx, .inl (E.2.1 0, 72, .inl fx)), (tk, .inr (10, [.ref tp, .int kd, .int sa, .int nu, .int be])), (tp, .inr (9, [.ref by_, .int le])), (by_, .inl (E.2.1 0, 800, .inl f))] := hD
  refine lv_if_eq (tgt := 35) hx hb dX6_readLine_9 (by decide) (fun c_3 => ?_) (fun c_3 => ?_)
  · refine lv_aload_n hx hb dX6_readLine_35 rfl (lv_at hl 0 rfl) ?_
    refine va_get (D := E.1) (ci := 6) (v := .ref tk) (C := RX6) (T := TX6) (N := 3) hx hb hts inX6 hown hK hP 0 rfl rfl 0 (by decide) fl23 (fun _ h9 => h9) rfl dX6_readLine_36 ?_
    refine va_ldcS hx hb hown (hkn.2.2.2 15 (by decide)) dX6_readLine_39 ?_
    have hPc := hP.sub (ws' := [(tk, .inr (10, [.ref tp, .int kd, .int sa, .int nu, .int be])), (tp, .inr (9, [.ref by_, .int le])), (by_, .inl (E.2.1 0, 800, .inl f))]) [3, 4, 5] rfl
    have hDc := hD.sub (ws' := [(tk, .inr (10, [.ref tp, .int kd, .int sa, .int nu, .int be])), (tp, .inr (9, [.ref by_, .int le])), (by_, .inl (E.2.1 0, 800, .inl f))]) [3, 4, 5] (by decide) rfl
    have hFc := va_free (wc := [(tk, .inr (10, [.ref tp, .int kd, .int sa, .int nu, .int be])), (tp, .inr (9, [.ref by_, .int le])), (by_, .inl (E.2.1 0, 800, .inl f))]) hD hS hA [3, 4, 5] rfl
    refine va_calli (va_runV (As := [.ref (E.2.2.1 15)]) (rest := []) ⟨hx, hb, hml, hown, hts⟩ (c_X10_spells l E tk tp by_ kd sa nu be le f 15 H.size (by decide)) (cwV 1 hts gX6_readLine_X10_spells rfl rfl rfl hdV_X10_spells ⟨Nat.le_of_ble_eq_true rfl, Nat.le_of_ble_eq_true rfl⟩) ⟨pcW_blind, va_recv hK hPc (ci := 10) (q0 := 0) rfl rfl, (pcW_pre hPc hkn hDc hst hS hFc)⟩ rfl rfl hl.1 rfl (lv_room (Nat.le_of_ble_eq_true rfl)) dX6_readLine_41 ⟨Nat.le_of_ble_eq_true rfl, Nat.le_of_ble_eq_true rfl⟩) hS (fun q _ h => hFc q h) hFc (fun r_4 u t H1 locs ht hvm hw_5 hB hz1 hk1 hS => ?_)
    obtain ⟨hP1, hD1⟩ := hB
    rw [ht] at hP1
    try dsimp only at hw_5
    obtain ⟨hP, hD⟩ := va_join (wr := [(h0, .inr (6, [.ref tk, .int fk, .int fq])), (into, .inr (1, [.ref bx, .int (nI bn), .int lc, .int mf, .int li])), (bx, .inl (E.2.1 0, 72, .inl fx))]) (w1 := [(tk, .inr (10, [.ref tp, .int kd, .int sa, .int nu, .int be])), (tp, .inr (9, [.ref by_, .int le])), (by_, .inl (E.2.1 0, 800, .inl f))]) hP hD [3, 4, 5] [0, 1, 2] rfl rfl (by decide) (by decide) hk1 hFc hP1 hD1
    generalize H1 = H at hP hS ⊢
    have hP : va_P E.1 vwCl [(h0, .inr (6, [.ref tk, .int fk, .int fq])), (into, .inr (1, [.ref bx, .int (nI bn), .int lc, .int mf, .int li])), (bx, .inl (E.2.1 0, 72, .inl fx)), (tk, .inr (10, [.ref tp, .int kd, .int sa, .int nu, .int be])), (tp, .inr (9, [.ref by_, .int le])), (by_, .inl (E.2.1 0, 800, .inl f))] H := hP
    have hD : va_D A [(h0, .inr (6, [.ref tk, .int fk, .int fq])), (into, .inr (1, [.ref bx, .int (nI bn), .int lc, .int mf, .int li])), (bx, .inl (E.2.1 0, 72, .inl fx)), (tk, .inr (10, [.ref tp, .int kd, .int sa, .int nu, .int be])), (tp, .inr (9, [.ref by_, .int le])), (by_, .inl (E.2.1 0, 800, .inl f))] := hD
    refine lv_if_eq (tgt := 69) hx hb dX6_readLine_44 (by decide) (fun c_6 => ?_) (fun c_6 => ?_)
    · refine lv_aload_n hx hb dX6_readLine_69 rfl (lv_at hl 0 rfl) ?_
      refine va_get (D := E.1) (ci := 6) (v := .ref tk) (C := RX6) (T := TX6) (N := 3) hx hb hts inX6 hown hK hP 0 rfl rfl 0 (by decide) fl23 (fun _ h9 => h9) rfl dX6_readLine_70 ?_
      refine va_ldcS hx hb hown (hkn.2.2.2 1 (by decide)) dX6_readLine_73 ?_
      have hPc := hP.sub (ws' := [(tk, .inr (10, [.ref tp, .int kd, .int sa, .int nu, .int be])), (tp, .inr (9, [.ref by_, .int le])), (by_, .inl (E.2.1 0, 800, .inl f))]) [3, 4, 5] rfl
      have hDc := hD.sub (ws' := [(tk, .inr (10, [.ref tp, .int kd, .int sa, .int nu, .int be])), (tp, .inr (9, [.ref by_, .int le])), (by_, .inl (E.2.1 0, 800, .inl f))]) [3, 4, 5] (by decide) rfl
      have hFc := va_free (wc := [(tk, .inr (10, [.ref tp, .int kd, .int sa, .int nu, .int be])), (tp, .inr (9, [.ref by_, .int le])), (by_, .inl (E.2.1 0, 800, .inl f))]) hD hS hA [3, 4, 5] rfl
      refine va_calli (va_runV (As := [.ref (E.2.2.1 1)]) (rest := []) ⟨hx, hb, hml, hown, hts⟩ (c_X10_spells l E tk tp by_ kd sa nu be le f 1 H.size (by decide)) (cwV 1 hts gX6_readLine_X10_spells rfl rfl rfl hdV_X10_spells ⟨Nat.le_of_ble_eq_true rfl, Nat.le_of_ble_eq_true rfl⟩) ⟨pcW_blind, va_recv hK hPc (ci := 10) (q0 := 0) rfl rfl, (pcW_pre hPc hkn hDc hst hS hFc)⟩ rfl rfl hl.1 rfl (lv_room (Nat.le_of_ble_eq_true rfl)) dX6_readLine_75 ⟨Nat.le_of_ble_eq_true rfl, Nat.le_of_ble_eq_true rfl⟩) hS (fun q _ h => hFc q h) hFc (fun r_7 u t H1 locs ht hvm hw_8 hB hz1 hk1 hS => ?_)
      obtain ⟨hP1, hD1⟩ := hB
      rw [ht] at hP1
      try dsimp only at hw_8
      obtain ⟨hP, hD⟩ := va_join (wr := [(h0, .inr (6, [.ref tk, .int fk, .int fq])), (into, .inr (1, [.ref bx, .int (nI bn), .int lc, .int mf, .int li])), (bx, .inl (E.2.1 0, 72, .inl fx))]) (w1 := [(tk, .inr (10, [.ref tp, .int kd, .int sa, .int nu, .int be])), (tp, .inr (9, [.ref by_, .int le])), (by_, .inl (E.2.1 0, 800, .inl f))]) hP hD [3, 4, 5] [0, 1, 2] rfl rfl (by decide) (by decide) hk1 hFc hP1 hD1
      generalize H1 = H at hP hS ⊢
      have hP : va_P E.1 vwCl [(h0, .inr (6, [.ref tk, .int fk, .int fq])), (into, .inr (1, [.ref bx, .int (nI bn), .int lc, .int mf, .int li])), (bx, .inl (E.2.1 0, 72, .inl fx)), (tk, .inr (10, [.ref tp, .int kd, .int sa, .int nu, .int be])), (tp, .inr (9, [.ref by_, .int le])), (by_, .inl (E.2.1 0, 800, .inl f))] H := hP
      have hD : va_D A [(h0, .inr (6, [.ref tk, .int fk, .int fq])), (into, .inr (1, [.ref bx, .int (nI bn), .int lc, .int mf, .int li])), (bx, .inl (E.2.1 0, 72, .inl fx)), (tk, .inr (10, [.ref tp, .int kd, .int sa, .int nu, .int be])), (tp, .inr (9, [.ref by_, .int le])), (by_, .inl (E.2.1 0, 800, .inl f))] := hD
      refine lv_if_eq (tgt := 103) hx hb dX6_readLine_78 (by decide) (fun c_9 => ?_) (fun c_9 => ?_)
      · refine lv_aload_n hx hb dX6_readLine_103 rfl (lv_at hl 0 rfl) ?_
        refine lv_iconst (v := 1) hx hb dX6_readLine_104 (by decide) ?_
        have hPc := hP.sub (ws' := [(h0, .inr (6, [.ref tk, .int fk, .int fq])), (tk, .inr (10, [.ref tp, .int kd, .int sa, .int nu, .int be])), (tp, .inr (9, [.ref by_, .int le])), (by_, .inl (E.2.1 0, 800, .inl f))]) [0, 3, 4, 5] rfl
        have hDc := hD.sub (ws' := [(h0, .inr (6, [.ref tk, .int fk, .int fq])), (tk, .inr (10, [.ref tp, .int kd, .int sa, .int nu, .int be])), (tp, .inr (9, [.ref by_, .int le])), (by_, .inl (E.2.1 0, 800, .inl f))]) [0, 3, 4, 5] (by decide) rfl
        have hFc := va_free (wc := [(h0, .inr (6, [.ref tk, .int fk, .int fq])), (tk, .inr (10, [.ref tp, .int kd, .int sa, .int nu, .int be])), (tp, .inr (9, [.ref by_, .int le])), (by_, .inl (E.2.1 0, 800, .inl f))]) hD hS hA [0, 3, 4, 5] rfl
        refine va_calli (va_runV (As := [.int 1]) (rest := []) ⟨hx, hb, hml, hown, hts⟩ (c_X6_refuse l E h0 tk tp by_ fk fq kd sa nu be le f 1 H.size ) (cwV 1 hts gX6_readLine_X6_refuse rfl rfl rfl hdV_X6_refuse ⟨Nat.le_of_ble_eq_true rfl, Nat.le_of_ble_eq_true rfl⟩) ⟨pcW_blind, va_recv hK hPc (ci := 6) (q0 := 0) rfl rfl, (pcW_pre hPc hkn hDc hst hS hFc)⟩ rfl rfl hl.1 rfl (lv_room (Nat.le_of_ble_eq_true rfl)) dX6_readLine_105 ⟨Nat.le_of_ble_eq_true rfl, Nat.le_of_ble_eq_true rfl⟩) hS (fun q _ h => hFc q h) hFc (fun r_10 u t H1 locs ht hvm hw_11 hB hz1 hk1 hS => ?_)
        obtain ⟨u_12, u_13⟩ := u
        obtain ⟨hP1, hD1⟩ := hB
        rw [ht] at hP1
        try dsimp only at hw_11
        obtain ⟨hP, hD⟩ := va_join (wr := [(into, .inr (1, [.ref bx, .int (nI bn), .int lc, .int mf, .int li])), (bx, .inl (E.2.1 0, 72, .inl fx))]) (w1 := [(h0, .inr (6, [.ref tk, .int u_12, .int u_13])), (tk, .inr (10, [.ref tp, .int kd, .int sa, .int nu, .int be])), (tp, .inr (9, [.ref by_, .int le])), (by_, .inl (E.2.1 0, 800, .inl f))]) hP hD [0, 3, 4, 5] [1, 2] rfl rfl (by decide) (by decide) hk1 hFc hP1 hD1
        generalize H1 = H at hP hS ⊢
        have hP : va_P E.1 vwCl [(into, .inr (1, [.ref bx, .int (nI bn), .int lc, .int mf, .int li])), (bx, .inl (E.2.1 0, 72, .inl fx)), (h0, .inr (6, [.ref tk, .int u_12, .int u_13])), (tk, .inr (10, [.ref tp, .int kd, .int sa, .int nu, .int be])), (tp, .inr (9, [.ref by_, .int le])), (by_, .inl (E.2.1 0, 800, .inl f))] H := hP
        have hD : va_D A [(into, .inr (1, [.ref bx, .int (nI bn), .int lc, .int mf, .int li])), (bx, .inl (E.2.1 0, 72, .inl fx)), (h0, .inr (6, [.ref tk, .int u_12, .int u_13])), (tk, .inr (10, [.ref tp, .int kd, .int sa, .int nu, .int be])), (tp, .inr (9, [.ref by_, .int le])), (by_, .inl (E.2.1 0, 800, .inl f))] := hD
        obtain rfl : r_10 = 0 := hw_11
        have hP9 := hP.sub (ws' := [(h0, .inr (6, [.ref tk, .int u_12, .int u_13])), (tk, .inr (10, [.ref tp, .int kd, .int sa, .int nu, .int be])), (tp, .inr (9, [.ref by_, .int le])), (by_, .inl (E.2.1 0, 800, .inl f)), (into, .inr (1, [.ref bx, .int (nI bn), .int lc, .int mf, .int li])), (bx, .inl (E.2.1 0, 72, .inl fx))]) [2, 3, 4, 5, 0, 1] rfl
        have hD9 := hD.sub (ws' := [(h0, .inr (6, [.ref tk, .int u_12, .int u_13])), (tk, .inr (10, [.ref tp, .int kd, .int sa, .int nu, .int be])), (tp, .inr (9, [.ref by_, .int le])), (by_, .inl (E.2.1 0, 800, .inl f)), (into, .inr (1, [.ref bx, .int (nI bn), .int lc, .int mf, .int li])), (bx, .inl (E.2.1 0, 72, .inl fx))]) [2, 3, 4, 5, 0, 1] (by decide) rfl
        exact W.zret (v := 0) hx hb hr (by decide) (fun t ht hW => ⟨⟨0, (u_12, u_13, kd, sa, nu, be, bn, lc, mf, fx), rfl, Or.inl rfl, (by omega), by rw [ht]; exact hP9, hD9⟩, hS.F ht⟩) hS.2.2 dX6_readLine_108
      · refine lv_aload_n hx hb dX6_readLine_81 rfl (lv_at hl 1 rfl) ?_
        refine va_get (D := E.1) (ci := 1) (v := .int mf) (C := RX1) (T := TX1) (N := 5) hx hb hts inX1 hown hK hP 1 rfl rfl 3 (by decide) fl130 (fun _ h9 => h9) rfl dX6_readLine_82 ?_
        refine lv_iconst (v := (-1)) hx hb dX6_readLine_85 (by decide) ?_
        refine lv_icmp_eq (tgt := 97) hx hb dX6_readLine_86 (by decide) (fun c_14 => ?_) (fun c_14 => ?_)
        · refine lv_aload_n hx hb dX6_readLine_97 rfl (lv_at hl 0 rfl) ?_
          refine lv_aload_n hx hb dX6_readLine_98 rfl (lv_at hl 1 rfl) ?_
          have hPc := hP.sub (ws' := [(h0, .inr (6, [.ref tk, .int fk, .int fq])), (tk, .inr (10, [.ref tp, .int kd, .int sa, .int nu, .int be])), (tp, .inr (9, [.ref by_, .int le])), (by_, .inl (E.2.1 0, 800, .inl f)), (into, .inr (1, [.ref bx, .int (nI bn), .int lc, .int mf, .int li])), (bx, .inl (E.2.1 0, 72, .inl fx))]) [0, 3, 4, 5, 1, 2] rfl
          have hDc := hD.sub (ws' := [(h0, .inr (6, [.ref tk, .int fk, .int fq])), (tk, .inr (10, [.ref tp, .int kd, .int sa, .int nu, .int be])), (tp, .inr (9, [.ref by_, .int le])), (by_, .inl (E.2.1 0, 800, .inl f)), (into, .inr (1, [.ref bx, .int (nI bn), .int lc, .int mf, .int li])), (bx, .inl (E.2.1 0, 72, .inl fx))]) [0, 3, 4, 5, 1, 2] (by decide) rfl
          have hFc := va_free (wc := [(h0, .inr (6, [.ref tk, .int fk, .int fq])), (tk, .inr (10, [.ref tp, .int kd, .int sa, .int nu, .int be])), (tp, .inr (9, [.ref by_, .int le])), (by_, .inl (E.2.1 0, 800, .inl f)), (into, .inr (1, [.ref bx, .int (nI bn), .int lc, .int mf, .int li])), (bx, .inl (E.2.1 0, 72, .inl fx))]) hD hS hA [0, 3, 4, 5, 1, 2] rfl
          refine va_calli (va_runV (As := [.ref into]) (rest := []) ⟨hx, hb, hml, hown, hts⟩ (c_X6_readForce l E h0 tk tp by_ fk fq kd sa nu be le f into bx bn lc mf li fx H.size hbn) (cwV 1 hts gX6_readLine_X6_readForce rfl rfl rfl hdV_X6_readForce ⟨Nat.le_of_ble_eq_true rfl, Nat.le_of_ble_eq_true rfl⟩) ⟨pcW_blind, va_recv hK hPc (ci := 6) (q0 := 0) rfl rfl, (pcW_pre hPc hkn hDc hst hS hFc)⟩ rfl rfl hl.1 rfl (lv_room (Nat.le_of_ble_eq_true rfl)) dX6_readLine_99 ⟨Nat.le_of_ble_eq_true rfl, Nat.le_of_ble_eq_true rfl⟩) hS (fun q _ h => hFc q h) hFc (fun r_15 u t H1 locs ht hvm hw_16 hB hz1 hk1 hS => ?_)
          obtain ⟨u_17, u_18, u_19, u_20, u_21, u_22, u_23, u_24, u_25, u_26⟩ := u
          obtain ⟨hf_27, hP1, hD1⟩ := hB
          rw [ht] at hP1
          try dsimp only at hw_16
          obtain ⟨hP, hD⟩ := va_join (wr := []) (w1 := [(h0, .inr (6, [.ref tk, .int u_17, .int u_18])), (tk, .inr (10, [.ref tp, .int u_19, .int u_20, .int u_21, .int u_22])), (tp, .inr (9, [.ref by_, .int le])), (by_, .inl (E.2.1 0, 800, .inl f)), (into, .inr (1, [.ref bx, .int (nI u_23), .int u_24, .int u_25, .int li])), (bx, .inl (E.2.1 0, 72, .inl u_26))]) hP hD [0, 3, 4, 5, 1, 2] [] rfl rfl (by decide) (by decide) hk1 hFc hP1 hD1
          generalize H1 = H at hP hS ⊢
          have hP : va_P E.1 vwCl [(h0, .inr (6, [.ref tk, .int u_17, .int u_18])), (tk, .inr (10, [.ref tp, .int u_19, .int u_20, .int u_21, .int u_22])), (tp, .inr (9, [.ref by_, .int le])), (by_, .inl (E.2.1 0, 800, .inl f)), (into, .inr (1, [.ref bx, .int (nI u_23), .int u_24, .int u_25, .int li])), (bx, .inl (E.2.1 0, 72, .inl u_26))] H := hP
          have hD : va_D A [(h0, .inr (6, [.ref tk, .int u_17, .int u_18])), (tk, .inr (10, [.ref tp, .int u_19, .int u_20, .int u_21, .int u_22])), (tp, .inr (9, [.ref by_, .int le])), (by_, .inl (E.2.1 0, 800, .inl f)), (into, .inr (1, [.ref bx, .int (nI u_23), .int u_24, .int u_25, .int li])), (bx, .inl (E.2.1 0, 72, .inl u_26))] := hD
          have hP9 := hP.sub (ws' := [(h0, .inr (6, [.ref tk, .int u_17, .int u_18])), (tk, .inr (10, [.ref tp, .int u_19, .int u_20, .int u_21, .int u_22])), (tp, .inr (9, [.ref by_, .int le])), (by_, .inl (E.2.1 0, 800, .inl f)), (into, .inr (1, [.ref bx, .int (nI u_23), .int u_24, .int u_25, .int li])), (bx, .inl (E.2.1 0, 72, .inl u_26))]) [0, 1, 2, 3, 4, 5] rfl
          have hD9 := hD.sub (ws' := [(h0, .inr (6, [.ref tk, .int u_17, .int u_18])), (tk, .inr (10, [.ref tp, .int u_19, .int u_20, .int u_21, .int u_22])), (tp, .inr (9, [.ref by_, .int le])), (by_, .inl (E.2.1 0, 800, .inl f)), (into, .inr (1, [.ref bx, .int (nI u_23), .int u_24, .int u_25, .int li])), (bx, .inl (E.2.1 0, 72, .inl u_26))]) [0, 1, 2, 3, 4, 5] (by decide) rfl
          exact W.zret (v := r_15) hx hb hr (z01 hw_16) (fun t ht hW => ⟨⟨r_15, (u_17, u_18, u_19, u_20, u_21, u_22, u_23, u_24, u_25, u_26), rfl, hw_16, hf_27, by rw [ht]; exact hP9, hD9⟩, hS.F ht⟩) hS.2.2 dX6_readLine_102
        · refine lv_aload_n hx hb dX6_readLine_89 rfl (lv_at hl 0 rfl) ?_
          refine lv_iconst (v := 3) hx hb dX6_readLine_90 (by decide) ?_
          have hPc := hP.sub (ws' := [(h0, .inr (6, [.ref tk, .int fk, .int fq])), (tk, .inr (10, [.ref tp, .int kd, .int sa, .int nu, .int be])), (tp, .inr (9, [.ref by_, .int le])), (by_, .inl (E.2.1 0, 800, .inl f))]) [0, 3, 4, 5] rfl
          have hDc := hD.sub (ws' := [(h0, .inr (6, [.ref tk, .int fk, .int fq])), (tk, .inr (10, [.ref tp, .int kd, .int sa, .int nu, .int be])), (tp, .inr (9, [.ref by_, .int le])), (by_, .inl (E.2.1 0, 800, .inl f))]) [0, 3, 4, 5] (by decide) rfl
          have hFc := va_free (wc := [(h0, .inr (6, [.ref tk, .int fk, .int fq])), (tk, .inr (10, [.ref tp, .int kd, .int sa, .int nu, .int be])), (tp, .inr (9, [.ref by_, .int le])), (by_, .inl (E.2.1 0, 800, .inl f))]) hD hS hA [0, 3, 4, 5] rfl
          refine va_calli (va_runV (As := [.int 3]) (rest := []) ⟨hx, hb, hml, hown, hts⟩ (c_X6_refuse l E h0 tk tp by_ fk fq kd sa nu be le f 3 H.size ) (cwV 1 hts gX6_readLine_X6_refuse rfl rfl rfl hdV_X6_refuse ⟨Nat.le_of_ble_eq_true rfl, Nat.le_of_ble_eq_true rfl⟩) ⟨pcW_blind, va_recv hK hPc (ci := 6) (q0 := 0) rfl rfl, (pcW_pre hPc hkn hDc hst hS hFc)⟩ rfl rfl hl.1 rfl (lv_room (Nat.le_of_ble_eq_true rfl)) dX6_readLine_91 ⟨Nat.le_of_ble_eq_true rfl, Nat.le_of_ble_eq_true rfl⟩) hS (fun q _ h => hFc q h) hFc (fun r_28 u t H1 locs ht hvm hw_29 hB hz1 hk1 hS => ?_)
          obtain ⟨u_30, u_31⟩ := u
          obtain ⟨hP1, hD1⟩ := hB
          rw [ht] at hP1
          try dsimp only at hw_29
          obtain ⟨hP, hD⟩ := va_join (wr := [(into, .inr (1, [.ref bx, .int (nI bn), .int lc, .int mf, .int li])), (bx, .inl (E.2.1 0, 72, .inl fx))]) (w1 := [(h0, .inr (6, [.ref tk, .int u_30, .int u_31])), (tk, .inr (10, [.ref tp, .int kd, .int sa, .int nu, .int be])), (tp, .inr (9, [.ref by_, .int le])), (by_, .inl (E.2.1 0, 800, .inl f))]) hP hD [0, 3, 4, 5] [1, 2] rfl rfl (by decide) (by decide) hk1 hFc hP1 hD1
          generalize H1 = H at hP hS ⊢
          have hP : va_P E.1 vwCl [(into, .inr (1, [.ref bx, .int (nI bn), .int lc, .int mf, .int li])), (bx, .inl (E.2.1 0, 72, .inl fx)), (h0, .inr (6, [.ref tk, .int u_30, .int u_31])), (tk, .inr (10, [.ref tp, .int kd, .int sa, .int nu, .int be])), (tp, .inr (9, [.ref by_, .int le])), (by_, .inl (E.2.1 0, 800, .inl f))] H := hP
          have hD : va_D A [(into, .inr (1, [.ref bx, .int (nI bn), .int lc, .int mf, .int li])), (bx, .inl (E.2.1 0, 72, .inl fx)), (h0, .inr (6, [.ref tk, .int u_30, .int u_31])), (tk, .inr (10, [.ref tp, .int kd, .int sa, .int nu, .int be])), (tp, .inr (9, [.ref by_, .int le])), (by_, .inl (E.2.1 0, 800, .inl f))] := hD
          obtain rfl : r_28 = 0 := hw_29
          refine lv_goto (tgt := 102) hx hb dX6_readLine_94 (by decide) ?_
          have hP9 := hP.sub (ws' := [(h0, .inr (6, [.ref tk, .int u_30, .int u_31])), (tk, .inr (10, [.ref tp, .int kd, .int sa, .int nu, .int be])), (tp, .inr (9, [.ref by_, .int le])), (by_, .inl (E.2.1 0, 800, .inl f)), (into, .inr (1, [.ref bx, .int (nI bn), .int lc, .int mf, .int li])), (bx, .inl (E.2.1 0, 72, .inl fx))]) [2, 3, 4, 5, 0, 1] rfl
          have hD9 := hD.sub (ws' := [(h0, .inr (6, [.ref tk, .int u_30, .int u_31])), (tk, .inr (10, [.ref tp, .int kd, .int sa, .int nu, .int be])), (tp, .inr (9, [.ref by_, .int le])), (by_, .inl (E.2.1 0, 800, .inl f)), (into, .inr (1, [.ref bx, .int (nI bn), .int lc, .int mf, .int li])), (bx, .inl (E.2.1 0, 72, .inl fx))]) [2, 3, 4, 5, 0, 1] (by decide) rfl
          exact W.zret (v := 0) hx hb hr (by decide) (fun t ht hW => ⟨⟨0, (u_30, u_31, kd, sa, nu, be, bn, lc, mf, fx), rfl, Or.inl rfl, (by omega), by rw [ht]; exact hP9, hD9⟩, hS.F ht⟩) hS.2.2 dX6_readLine_102
    · refine lv_aload_n hx hb dX6_readLine_47 rfl (lv_at hl 1 rfl) ?_
      refine va_get (D := E.1) (ci := 1) (v := .int lc) (C := RX1) (T := TX1) (N := 5) hx hb hts inX1 hown hK hP 1 rfl rfl 2 (by decide) fl124 (fun _ h9 => h9) rfl dX6_readLine_48 ?_
      refine lv_iconst (v := (-1)) hx hb dX6_readLine_51 (by decide) ?_
      refine lv_icmp_eq (tgt := 63) hx hb dX6_readLine_52 (by decide) (fun c_32 => ?_) (fun c_32 => ?_)
      · refine lv_aload_n hx hb dX6_readLine_63 rfl (lv_at hl 0 rfl) ?_
        refine lv_aload_n hx hb dX6_readLine_64 rfl (lv_at hl 1 rfl) ?_
        have hPc := hP.sub (ws' := [(h0, .inr (6, [.ref tk, .int fk, .int fq])), (tk, .inr (10, [.ref tp, .int kd, .int sa, .int nu, .int be])), (tp, .inr (9, [.ref by_, .int le])), (by_, .inl (E.2.1 0, 800, .inl f)), (into, .inr (1, [.ref bx, .int (nI bn), .int lc, .int mf, .int li])), (bx, .inl (E.2.1 0, 72, .inl fx))]) [0, 3, 4, 5, 1, 2] rfl
        have hDc := hD.sub (ws' := [(h0, .inr (6, [.ref tk, .int fk, .int fq])), (tk, .inr (10, [.ref tp, .int kd, .int sa, .int nu, .int be])), (tp, .inr (9, [.ref by_, .int le])), (by_, .inl (E.2.1 0, 800, .inl f)), (into, .inr (1, [.ref bx, .int (nI bn), .int lc, .int mf, .int li])), (bx, .inl (E.2.1 0, 72, .inl fx))]) [0, 3, 4, 5, 1, 2] (by decide) rfl
        have hFc := va_free (wc := [(h0, .inr (6, [.ref tk, .int fk, .int fq])), (tk, .inr (10, [.ref tp, .int kd, .int sa, .int nu, .int be])), (tp, .inr (9, [.ref by_, .int le])), (by_, .inl (E.2.1 0, 800, .inl f)), (into, .inr (1, [.ref bx, .int (nI bn), .int lc, .int mf, .int li])), (bx, .inl (E.2.1 0, 72, .inl fx))]) hD hS hA [0, 3, 4, 5, 1, 2] rfl
        refine va_calli (va_runV (As := [.ref into]) (rest := []) ⟨hx, hb, hml, hown, hts⟩ (c_X6_readCrew l E h0 tk tp by_ fk fq kd sa nu be le f into bx bn lc mf li fx H.size hbn) (cwV 1 hts gX6_readLine_X6_readCrew rfl rfl rfl hdV_X6_readCrew ⟨Nat.le_of_ble_eq_true rfl, Nat.le_of_ble_eq_true rfl⟩) ⟨pcW_blind, va_recv hK hPc (ci := 6) (q0 := 0) rfl rfl, (pcW_pre hPc hkn hDc hst hS hFc)⟩ rfl rfl hl.1 rfl (lv_room (Nat.le_of_ble_eq_true rfl)) dX6_readLine_65 ⟨Nat.le_of_ble_eq_true rfl, Nat.le_of_ble_eq_true rfl⟩) hS (fun q _ h => hFc q h) hFc (fun r_33 u t H1 locs ht hvm hw_34 hB hz1 hk1 hS => ?_)
        obtain ⟨u_35, u_36, u_37, u_38, u_39, u_40, u_41, u_42, u_43, u_44⟩ := u
        obtain ⟨hf_45, hP1, hD1⟩ := hB
        rw [ht] at hP1
        try dsimp only at hw_34
        obtain ⟨hP, hD⟩ := va_join (wr := []) (w1 := [(h0, .inr (6, [.ref tk, .int u_35, .int u_36])), (tk, .inr (10, [.ref tp, .int u_37, .int u_38, .int u_39, .int u_40])), (tp, .inr (9, [.ref by_, .int le])), (by_, .inl (E.2.1 0, 800, .inl f)), (into, .inr (1, [.ref bx, .int (nI u_41), .int u_42, .int u_43, .int li])), (bx, .inl (E.2.1 0, 72, .inl u_44))]) hP hD [0, 3, 4, 5, 1, 2] [] rfl rfl (by decide) (by decide) hk1 hFc hP1 hD1
        generalize H1 = H at hP hS ⊢
        have hP : va_P E.1 vwCl [(h0, .inr (6, [.ref tk, .int u_35, .int u_36])), (tk, .inr (10, [.ref tp, .int u_37, .int u_38, .int u_39, .int u_40])), (tp, .inr (9, [.ref by_, .int le])), (by_, .inl (E.2.1 0, 800, .inl f)), (into, .inr (1, [.ref bx, .int (nI u_41), .int u_42, .int u_43, .int li])), (bx, .inl (E.2.1 0, 72, .inl u_44))] H := hP
        have hD : va_D A [(h0, .inr (6, [.ref tk, .int u_35, .int u_36])), (tk, .inr (10, [.ref tp, .int u_37, .int u_38, .int u_39, .int u_40])), (tp, .inr (9, [.ref by_, .int le])), (by_, .inl (E.2.1 0, 800, .inl f)), (into, .inr (1, [.ref bx, .int (nI u_41), .int u_42, .int u_43, .int li])), (bx, .inl (E.2.1 0, 72, .inl u_44))] := hD
        have hP9 := hP.sub (ws' := [(h0, .inr (6, [.ref tk, .int u_35, .int u_36])), (tk, .inr (10, [.ref tp, .int u_37, .int u_38, .int u_39, .int u_40])), (tp, .inr (9, [.ref by_, .int le])), (by_, .inl (E.2.1 0, 800, .inl f)), (into, .inr (1, [.ref bx, .int (nI u_41), .int u_42, .int u_43, .int li])), (bx, .inl (E.2.1 0, 72, .inl u_44))]) [0, 1, 2, 3, 4, 5] rfl
        have hD9 := hD.sub (ws' := [(h0, .inr (6, [.ref tk, .int u_35, .int u_36])), (tk, .inr (10, [.ref tp, .int u_37, .int u_38, .int u_39, .int u_40])), (tp, .inr (9, [.ref by_, .int le])), (by_, .inl (E.2.1 0, 800, .inl f)), (into, .inr (1, [.ref bx, .int (nI u_41), .int u_42, .int u_43, .int li])), (bx, .inl (E.2.1 0, 72, .inl u_44))]) [0, 1, 2, 3, 4, 5] (by decide) rfl
        exact W.zret (v := r_33) hx hb hr (z01 hw_34) (fun t ht hW => ⟨⟨r_33, (u_35, u_36, u_37, u_38, u_39, u_40, u_41, u_42, u_43, u_44), rfl, hw_34, hf_45, by rw [ht]; exact hP9, hD9⟩, hS.F ht⟩) hS.2.2 dX6_readLine_68
      · refine lv_aload_n hx hb dX6_readLine_55 rfl (lv_at hl 0 rfl) ?_
        refine lv_iconst (v := 3) hx hb dX6_readLine_56 (by decide) ?_
        have hPc := hP.sub (ws' := [(h0, .inr (6, [.ref tk, .int fk, .int fq])), (tk, .inr (10, [.ref tp, .int kd, .int sa, .int nu, .int be])), (tp, .inr (9, [.ref by_, .int le])), (by_, .inl (E.2.1 0, 800, .inl f))]) [0, 3, 4, 5] rfl
        have hDc := hD.sub (ws' := [(h0, .inr (6, [.ref tk, .int fk, .int fq])), (tk, .inr (10, [.ref tp, .int kd, .int sa, .int nu, .int be])), (tp, .inr (9, [.ref by_, .int le])), (by_, .inl (E.2.1 0, 800, .inl f))]) [0, 3, 4, 5] (by decide) rfl
        have hFc := va_free (wc := [(h0, .inr (6, [.ref tk, .int fk, .int fq])), (tk, .inr (10, [.ref tp, .int kd, .int sa, .int nu, .int be])), (tp, .inr (9, [.ref by_, .int le])), (by_, .inl (E.2.1 0, 800, .inl f))]) hD hS hA [0, 3, 4, 5] rfl
        refine va_calli (va_runV (As := [.int 3]) (rest := []) ⟨hx, hb, hml, hown, hts⟩ (c_X6_refuse l E h0 tk tp by_ fk fq kd sa nu be le f 3 H.size ) (cwV 1 hts gX6_readLine_X6_refuse rfl rfl rfl hdV_X6_refuse ⟨Nat.le_of_ble_eq_true rfl, Nat.le_of_ble_eq_true rfl⟩) ⟨pcW_blind, va_recv hK hPc (ci := 6) (q0 := 0) rfl rfl, (pcW_pre hPc hkn hDc hst hS hFc)⟩ rfl rfl hl.1 rfl (lv_room (Nat.le_of_ble_eq_true rfl)) dX6_readLine_57 ⟨Nat.le_of_ble_eq_true rfl, Nat.le_of_ble_eq_true rfl⟩) hS (fun q _ h => hFc q h) hFc (fun r_46 u t H1 locs ht hvm hw_47 hB hz1 hk1 hS => ?_)
        obtain ⟨u_48, u_49⟩ := u
        obtain ⟨hP1, hD1⟩ := hB
        rw [ht] at hP1
        try dsimp only at hw_47
        obtain ⟨hP, hD⟩ := va_join (wr := [(into, .inr (1, [.ref bx, .int (nI bn), .int lc, .int mf, .int li])), (bx, .inl (E.2.1 0, 72, .inl fx))]) (w1 := [(h0, .inr (6, [.ref tk, .int u_48, .int u_49])), (tk, .inr (10, [.ref tp, .int kd, .int sa, .int nu, .int be])), (tp, .inr (9, [.ref by_, .int le])), (by_, .inl (E.2.1 0, 800, .inl f))]) hP hD [0, 3, 4, 5] [1, 2] rfl rfl (by decide) (by decide) hk1 hFc hP1 hD1
        generalize H1 = H at hP hS ⊢
        have hP : va_P E.1 vwCl [(into, .inr (1, [.ref bx, .int (nI bn), .int lc, .int mf, .int li])), (bx, .inl (E.2.1 0, 72, .inl fx)), (h0, .inr (6, [.ref tk, .int u_48, .int u_49])), (tk, .inr (10, [.ref tp, .int kd, .int sa, .int nu, .int be])), (tp, .inr (9, [.ref by_, .int le])), (by_, .inl (E.2.1 0, 800, .inl f))] H := hP
        have hD : va_D A [(into, .inr (1, [.ref bx, .int (nI bn), .int lc, .int mf, .int li])), (bx, .inl (E.2.1 0, 72, .inl fx)), (h0, .inr (6, [.ref tk, .int u_48, .int u_49])), (tk, .inr (10, [.ref tp, .int kd, .int sa, .int nu, .int be])), (tp, .inr (9, [.ref by_, .int le])), (by_, .inl (E.2.1 0, 800, .inl f))] := hD
        obtain rfl : r_46 = 0 := hw_47
        refine lv_goto (tgt := 68) hx hb dX6_readLine_60 (by decide) ?_
        have hP9 := hP.sub (ws' := [(h0, .inr (6, [.ref tk, .int u_48, .int u_49])), (tk, .inr (10, [.ref tp, .int kd, .int sa, .int nu, .int be])), (tp, .inr (9, [.ref by_, .int le])), (by_, .inl (E.2.1 0, 800, .inl f)), (into, .inr (1, [.ref bx, .int (nI bn), .int lc, .int mf, .int li])), (bx, .inl (E.2.1 0, 72, .inl fx))]) [2, 3, 4, 5, 0, 1] rfl
        have hD9 := hD.sub (ws' := [(h0, .inr (6, [.ref tk, .int u_48, .int u_49])), (tk, .inr (10, [.ref tp, .int kd, .int sa, .int nu, .int be])), (tp, .inr (9, [.ref by_, .int le])), (by_, .inl (E.2.1 0, 800, .inl f)), (into, .inr (1, [.ref bx, .int (nI bn), .int lc, .int mf, .int li])), (bx, .inl (E.2.1 0, 72, .inl fx))]) [2, 3, 4, 5, 0, 1] (by decide) rfl
        exact W.zret (v := 0) hx hb hr (by decide) (fun t ht hW => ⟨⟨0, (u_48, u_49, kd, sa, nu, be, bn, lc, mf, fx), rfl, Or.inl rfl, (by omega), by rw [ht]; exact hP9, hD9⟩, hS.F ht⟩) hS.2.2 dX6_readLine_68
  · refine lv_aload_n hx hb dX6_readLine_12 rfl (lv_at hl 1 rfl) ?_
    refine va_get (D := E.1) (ci := 1) (v := .int (nI bn)) (C := RX1) (T := TX1) (N := 5) hx hb hts inX1 hown hK hP 1 rfl rfl 1 (by decide) fl116 (fun _ h9 => h9) rfl dX6_readLine_13 ?_
    refine lv_bipush (v := 12) hx hb dX6_readLine_16 (by decide) ?_
    refine lv_icmp_lt (tgt := 29) hx hb dX6_readLine_18 (by decide) (fun c_50 => ?_) (fun c_50 => ?_)
    · have hb12 : bn < 12 := (nI_ltI (a := bn) (b := 12) (by omega) (by decide)).mp c_50
      refine lv_aload_n hx hb dX6_readLine_29 rfl (lv_at hl 0 rfl) ?_
      refine lv_aload_n hx hb dX6_readLine_30 rfl (lv_at hl 1 rfl) ?_
      have hPc := hP.sub (ws' := [(h0, .inr (6, [.ref tk, .int fk, .int fq])), (tk, .inr (10, [.ref tp, .int kd, .int sa, .int nu, .int be])), (tp, .inr (9, [.ref by_, .int le])), (by_, .inl (E.2.1 0, 800, .inl f)), (into, .inr (1, [.ref bx, .int (nI bn), .int lc, .int mf, .int li])), (bx, .inl (E.2.1 0, 72, .inl fx))]) [0, 3, 4, 5, 1, 2] rfl
      have hDc := hD.sub (ws' := [(h0, .inr (6, [.ref tk, .int fk, .int fq])), (tk, .inr (10, [.ref tp, .int kd, .int sa, .int nu, .int be])), (tp, .inr (9, [.ref by_, .int le])), (by_, .inl (E.2.1 0, 800, .inl f)), (into, .inr (1, [.ref bx, .int (nI bn), .int lc, .int mf, .int li])), (bx, .inl (E.2.1 0, 72, .inl fx))]) [0, 3, 4, 5, 1, 2] (by decide) rfl
      have hFc := va_free (wc := [(h0, .inr (6, [.ref tk, .int fk, .int fq])), (tk, .inr (10, [.ref tp, .int kd, .int sa, .int nu, .int be])), (tp, .inr (9, [.ref by_, .int le])), (by_, .inl (E.2.1 0, 800, .inl f)), (into, .inr (1, [.ref bx, .int (nI bn), .int lc, .int mf, .int li])), (bx, .inl (E.2.1 0, 72, .inl fx))]) hD hS hA [0, 3, 4, 5, 1, 2] rfl
      refine va_calli (va_runV (As := [.ref into]) (rest := []) ⟨hx, hb, hml, hown, hts⟩ (c_X6_readBox l E h0 tk tp by_ fk fq kd sa nu be le f into bx bn lc mf li fx H.size hb12) (cwV 1 hts gX6_readLine_X6_readBox rfl rfl rfl hdV_X6_readBox ⟨Nat.le_of_ble_eq_true rfl, Nat.le_of_ble_eq_true rfl⟩) ⟨pcW_blind, va_recv hK hPc (ci := 6) (q0 := 0) rfl rfl, (pcW_pre hPc hkn hDc hst hS hFc)⟩ rfl rfl hl.1 rfl (lv_room (Nat.le_of_ble_eq_true rfl)) dX6_readLine_31 ⟨Nat.le_of_ble_eq_true rfl, Nat.le_of_ble_eq_true rfl⟩) hS (fun q _ h => hFc q h) hFc (fun r_51 u t H1 locs ht hvm hw_52 hB hz1 hk1 hS => ?_)
      obtain ⟨u_53, u_54, u_55, u_56, u_57, u_58, u_59, u_60, u_61, u_62⟩ := u
      obtain ⟨hf_63, hP1, hD1⟩ := hB
      rw [ht] at hP1
      try dsimp only at hw_52
      obtain ⟨hP, hD⟩ := va_join (wr := []) (w1 := [(h0, .inr (6, [.ref tk, .int u_53, .int u_54])), (tk, .inr (10, [.ref tp, .int u_55, .int u_56, .int u_57, .int u_58])), (tp, .inr (9, [.ref by_, .int le])), (by_, .inl (E.2.1 0, 800, .inl f)), (into, .inr (1, [.ref bx, .int (nI u_59), .int u_60, .int u_61, .int li])), (bx, .inl (E.2.1 0, 72, .inl u_62))]) hP hD [0, 3, 4, 5, 1, 2] [] rfl rfl (by decide) (by decide) hk1 hFc hP1 hD1
      generalize H1 = H at hP hS ⊢
      have hP : va_P E.1 vwCl [(h0, .inr (6, [.ref tk, .int u_53, .int u_54])), (tk, .inr (10, [.ref tp, .int u_55, .int u_56, .int u_57, .int u_58])), (tp, .inr (9, [.ref by_, .int le])), (by_, .inl (E.2.1 0, 800, .inl f)), (into, .inr (1, [.ref bx, .int (nI u_59), .int u_60, .int u_61, .int li])), (bx, .inl (E.2.1 0, 72, .inl u_62))] H := hP
      have hD : va_D A [(h0, .inr (6, [.ref tk, .int u_53, .int u_54])), (tk, .inr (10, [.ref tp, .int u_55, .int u_56, .int u_57, .int u_58])), (tp, .inr (9, [.ref by_, .int le])), (by_, .inl (E.2.1 0, 800, .inl f)), (into, .inr (1, [.ref bx, .int (nI u_59), .int u_60, .int u_61, .int li])), (bx, .inl (E.2.1 0, 72, .inl u_62))] := hD
      have hP9 := hP.sub (ws' := [(h0, .inr (6, [.ref tk, .int u_53, .int u_54])), (tk, .inr (10, [.ref tp, .int u_55, .int u_56, .int u_57, .int u_58])), (tp, .inr (9, [.ref by_, .int le])), (by_, .inl (E.2.1 0, 800, .inl f)), (into, .inr (1, [.ref bx, .int (nI u_59), .int u_60, .int u_61, .int li])), (bx, .inl (E.2.1 0, 72, .inl u_62))]) [0, 1, 2, 3, 4, 5] rfl
      have hD9 := hD.sub (ws' := [(h0, .inr (6, [.ref tk, .int u_53, .int u_54])), (tk, .inr (10, [.ref tp, .int u_55, .int u_56, .int u_57, .int u_58])), (tp, .inr (9, [.ref by_, .int le])), (by_, .inl (E.2.1 0, 800, .inl f)), (into, .inr (1, [.ref bx, .int (nI u_59), .int u_60, .int u_61, .int li])), (bx, .inl (E.2.1 0, 72, .inl u_62))]) [0, 1, 2, 3, 4, 5] (by decide) rfl
      exact W.zret (v := r_51) hx hb hr (z01 hw_52) (fun t ht hW => ⟨⟨r_51, (u_53, u_54, u_55, u_56, u_57, u_58, u_59, u_60, u_61, u_62), rfl, hw_52, hf_63, by rw [ht]; exact hP9, hD9⟩, hS.F ht⟩) hS.2.2 dX6_readLine_34
    · refine lv_aload_n hx hb dX6_readLine_21 rfl (lv_at hl 0 rfl) ?_
      refine lv_iconst (v := 4) hx hb dX6_readLine_22 (by decide) ?_
      have hPc := hP.sub (ws' := [(h0, .inr (6, [.ref tk, .int fk, .int fq])), (tk, .inr (10, [.ref tp, .int kd, .int sa, .int nu, .int be])), (tp, .inr (9, [.ref by_, .int le])), (by_, .inl (E.2.1 0, 800, .inl f))]) [0, 3, 4, 5] rfl
      have hDc := hD.sub (ws' := [(h0, .inr (6, [.ref tk, .int fk, .int fq])), (tk, .inr (10, [.ref tp, .int kd, .int sa, .int nu, .int be])), (tp, .inr (9, [.ref by_, .int le])), (by_, .inl (E.2.1 0, 800, .inl f))]) [0, 3, 4, 5] (by decide) rfl
      have hFc := va_free (wc := [(h0, .inr (6, [.ref tk, .int fk, .int fq])), (tk, .inr (10, [.ref tp, .int kd, .int sa, .int nu, .int be])), (tp, .inr (9, [.ref by_, .int le])), (by_, .inl (E.2.1 0, 800, .inl f))]) hD hS hA [0, 3, 4, 5] rfl
      refine va_calli (va_runV (As := [.int 4]) (rest := []) ⟨hx, hb, hml, hown, hts⟩ (c_X6_refuse l E h0 tk tp by_ fk fq kd sa nu be le f 4 H.size ) (cwV 1 hts gX6_readLine_X6_refuse rfl rfl rfl hdV_X6_refuse ⟨Nat.le_of_ble_eq_true rfl, Nat.le_of_ble_eq_true rfl⟩) ⟨pcW_blind, va_recv hK hPc (ci := 6) (q0 := 0) rfl rfl, (pcW_pre hPc hkn hDc hst hS hFc)⟩ rfl rfl hl.1 rfl (lv_room (Nat.le_of_ble_eq_true rfl)) dX6_readLine_23 ⟨Nat.le_of_ble_eq_true rfl, Nat.le_of_ble_eq_true rfl⟩) hS (fun q _ h => hFc q h) hFc (fun r_64 u t H1 locs ht hvm hw_65 hB hz1 hk1 hS => ?_)
      obtain ⟨u_66, u_67⟩ := u
      obtain ⟨hP1, hD1⟩ := hB
      rw [ht] at hP1
      try dsimp only at hw_65
      obtain ⟨hP, hD⟩ := va_join (wr := [(into, .inr (1, [.ref bx, .int (nI bn), .int lc, .int mf, .int li])), (bx, .inl (E.2.1 0, 72, .inl fx))]) (w1 := [(h0, .inr (6, [.ref tk, .int u_66, .int u_67])), (tk, .inr (10, [.ref tp, .int kd, .int sa, .int nu, .int be])), (tp, .inr (9, [.ref by_, .int le])), (by_, .inl (E.2.1 0, 800, .inl f))]) hP hD [0, 3, 4, 5] [1, 2] rfl rfl (by decide) (by decide) hk1 hFc hP1 hD1
      generalize H1 = H at hP hS ⊢
      have hP : va_P E.1 vwCl [(into, .inr (1, [.ref bx, .int (nI bn), .int lc, .int mf, .int li])), (bx, .inl (E.2.1 0, 72, .inl fx)), (h0, .inr (6, [.ref tk, .int u_66, .int u_67])), (tk, .inr (10, [.ref tp, .int kd, .int sa, .int nu, .int be])), (tp, .inr (9, [.ref by_, .int le])), (by_, .inl (E.2.1 0, 800, .inl f))] H := hP
      have hD : va_D A [(into, .inr (1, [.ref bx, .int (nI bn), .int lc, .int mf, .int li])), (bx, .inl (E.2.1 0, 72, .inl fx)), (h0, .inr (6, [.ref tk, .int u_66, .int u_67])), (tk, .inr (10, [.ref tp, .int kd, .int sa, .int nu, .int be])), (tp, .inr (9, [.ref by_, .int le])), (by_, .inl (E.2.1 0, 800, .inl f))] := hD
      obtain rfl : r_64 = 0 := hw_65
      refine lv_goto (tgt := 34) hx hb dX6_readLine_26 (by decide) ?_
      have hP9 := hP.sub (ws' := [(h0, .inr (6, [.ref tk, .int u_66, .int u_67])), (tk, .inr (10, [.ref tp, .int kd, .int sa, .int nu, .int be])), (tp, .inr (9, [.ref by_, .int le])), (by_, .inl (E.2.1 0, 800, .inl f)), (into, .inr (1, [.ref bx, .int (nI bn), .int lc, .int mf, .int li])), (bx, .inl (E.2.1 0, 72, .inl fx))]) [2, 3, 4, 5, 0, 1] rfl
      have hD9 := hD.sub (ws' := [(h0, .inr (6, [.ref tk, .int u_66, .int u_67])), (tk, .inr (10, [.ref tp, .int kd, .int sa, .int nu, .int be])), (tp, .inr (9, [.ref by_, .int le])), (by_, .inl (E.2.1 0, 800, .inl f)), (into, .inr (1, [.ref bx, .int (nI bn), .int lc, .int mf, .int li])), (bx, .inl (E.2.1 0, 72, .inl fx))]) [2, 3, 4, 5, 0, 1] (by decide) rfl
      exact W.zret (v := 0) hx hb hr (by decide) (fun t ht hW => ⟨⟨0, (u_66, u_67, kd, sa, nu, be, bn, lc, mf, fx), rfl, Or.inl rfl, (by omega), by rw [ht]; exact hP9, hD9⟩, hS.F ht⟩) hS.2.2 dX6_readLine_34
set_option maxHeartbeats 4000000 in
set_option maxRecDepth 100000 in
theorem lg_cover {p : Program} {l : Launch} {e : Env} {s : State} {m : MethodId} {args : Array Value} {below : List Frame} {meth : Method} {c : Code} {Q : State → Prop} {A : Nat → Prop} (E : vE) (h0 : Nat) (tk : Nat) (tp : Nat) (by_ : Nat) (le : Int32) (f : Nat → Int32) (into : Nat) (bx : Nat) (hx : p.tables.exec = Jvm.exec) (hb : c.code = cX6_readCover) (hml : c.maxLocals = 3) (hown : s.vm.findClass RX6 = some m.cls) (hts : ∀ w ∈ wsX6_readCover, w.before args s = true) (hkn : kn E s) (hst : st E A s s.heap) (hA : ∀ q : Nat, s.heap.size ≤ q → A q) (kk : ∀ (fk : Int32) (fq : Int32) (kd : Int32) (sa : Int32) (nu : Int32) (be : Int32) (bn : Nat) (lc : Int32) (mf : Int32) (li : Int32) (fx : Nat → Int32) (H : Heap) (locs : List Loc) (ls : Array Slot), (bn ≤ 12) → va_P E.1 vwCl [(h0, .inr (6, [.ref tk, .int fk, .int fq])), (tk, .inr (10, [.ref tp, .int kd, .int sa, .int nu, .int be])), (tp, .inr (9, [.ref by_, .int le])), (by_, .inl (E.2.1 0, 800, .inl f)), (into, .inr (1, [.ref bx, .int (nI bn), .int lc, .int mf, .int li])), (bx, .inl (E.2.1 0, 72, .inl fx))] H → va_D A [(h0, .inr (6, [.ref tk, .int fk, .int fq])), (tk, .inr (10, [.ref tp, .int kd, .int sa, .int nu, .int be])), (tp, .inr (9, [.ref by_, .int le])), (by_, .inl (E.2.1 0, 800, .inl f)), (into, .inr (1, [.ref bx, .int (nI bn), .int lc, .int mf, .int li])), (bx, .inl (E.2.1 0, 72, .inl fx))] → va_S A s.heap H locs → lv_has ls 3 [(0, .ref h0), (1, .ref into)] → W p l e ({ frames := 8, cells := 0, slots := 0, locals := 174 }) s m args below meth c H locs 0 0 Q (F0 m 60 ls [])) (kk2 : ∀ (fk : Int32) (fq : Int32) (kd : Int32) (sa : Int32) (nu : Int32) (be : Int32) (bn : Nat) (lc : Int32) (mf : Int32) (li : Int32) (fx : Nat → Int32) (H : Heap) (locs : List Loc) (ls : Array Slot), (bn ≤ 12) → va_P E.1 vwCl [(h0, .inr (6, [.ref tk, .int fk, .int fq])), (tk, .inr (10, [.ref tp, .int kd, .int sa, .int nu, .int be])), (tp, .inr (9, [.ref by_, .int le])), (by_, .inl (E.2.1 0, 800, .inl f)), (into, .inr (1, [.ref bx, .int (nI bn), .int lc, .int mf, .int li])), (bx, .inl (E.2.1 0, 72, .inl fx))] H → va_D A [(h0, .inr (6, [.ref tk, .int fk, .int fq])), (tk, .inr (10, [.ref tp, .int kd, .int sa, .int nu, .int be])), (tp, .inr (9, [.ref by_, .int le])), (by_, .inl (E.2.1 0, 800, .inl f)), (into, .inr (1, [.ref bx, .int (nI bn), .int lc, .int mf, .int li])), (bx, .inl (E.2.1 0, 72, .inl fx))] → va_S A s.heap H locs → lv_has ls 3 [(0, .ref h0), (1, .ref into)] → W p l e ({ frames := 8, cells := 0, slots := 0, locals := 174 }) s m args below meth c H locs 0 0 Q (F0 m 42 ls [])) : ∀ (n0 : Nat) (k : Nat) (fk : Int32) (fq : Int32) (kd : Int32) (sa : Int32) (nu : Int32) (be : Int32) (bn : Nat) (lc : Int32) (mf : Int32) (li : Int32) (fx : Nat → Int32) (H : Heap) (locs : List Loc) (ls : Array Slot), 801 - k < n0 → (k ≤ 801) → (bn ≤ 12) → va_P E.1 vwCl [(h0, .inr (6, [.ref tk, .int fk, .int fq])), (tk, .inr (10, [.ref tp, .int kd, .int sa, .int nu, .int be])), (tp, .inr (9, [.ref by_, .int le])), (by_, .inl (E.2.1 0, 800, .inl f)), (into, .inr (1, [.ref bx, .int (nI bn), .int lc, .int mf, .int li])), (bx, .inl (E.2.1 0, 72, .inl fx))] H → va_D A [(h0, .inr (6, [.ref tk, .int fk, .int fq])), (tk, .inr (10, [.ref tp, .int kd, .int sa, .int nu, .int be])), (tp, .inr (9, [.ref by_, .int le])), (by_, .inl (E.2.1 0, 800, .inl f)), (into, .inr (1, [.ref bx, .int (nI bn), .int lc, .int mf, .int li])), (bx, .inl (E.2.1 0, 72, .inl fx))] → va_S A s.heap H locs → lv_has ls 3 [(0, .ref h0), (1, .ref into), (2, .int (nI k))] → W p l e ({ frames := 8, cells := 0, slots := 0, locals := 174 }) s m args below meth c H locs 0 0 Q (F0 m 10 ls []) := by
  have hK := hkn.1
  have hAO := hkn.2.2.1
  have fl23 := hts (.fieldLink RX6 23 "BoatsHome$Reader" "tokens" "LBoatsHome$Tokens;") (by first | exact List.mem_of_getElem? (i := 1) rfl | decide +kernel)
  have fl35 := hts (.fieldLink RX6 35 "BoatsHome$Tokens" "kind" "I") (by first | exact List.mem_of_getElem? (i := 2) rfl | decide +kernel)
  have fl55 := hts (.fieldLink RX6 55 "BoatsHome$Cover" "lines" "I") (by first | exact List.mem_of_getElem? (i := 3) rfl | decide +kernel)
  have inX1 : ∀ w ∈ u_ws RX1 TX1 5, w ∈ wsX6_readCover := by first | exact fun w h9 => (List.mem_cons_of_mem _ (List.mem_append_left _ (List.mem_append_right _ h9))) | decide +kernel
  have inX10 : ∀ w ∈ u_ws RX10 TX10 5, w ∈ wsX6_readCover := by first | exact fun w h9 => (List.mem_cons_of_mem _ (List.mem_append_left _ (List.mem_append_left _ (List.mem_append_right _ h9)))) | decide +kernel
  have inX6 : ∀ w ∈ u_ws RX6 TX6 3, w ∈ wsX6_readCover := by first | exact fun w h9 => (List.mem_cons_of_mem _ (List.mem_append_left _ (List.mem_append_left _ (List.mem_append_left _ (List.mem_append_right _ h9))))) | decide +kernel
  intro n0
  induction n0 with
  | zero =>
    intro k fk fq kd sa nu be bn lc mf li fx H locs ls hn0
    exact absurd hn0 (Nat.not_lt_zero _)
  | succ n0 ih =>
    intro k fk fq kd sa nu be bn lc mf li fx H locs ls hn0 hk hbn hP hD hS hl
    refine lv_iload_n hx hb dX6_readCover_10 rfl (lv_at hl 2 rfl) ?_
    refine lv_sipush (v := 800) hx hb dX6_readCover_11 (by decide) ?_
    refine lv_icmp_gt (tgt := 60) hx hb dX6_readCover_14 (by decide) (fun c_1 => ?_) (fun c_1 => ?_)
    · exact kk fk fq kd sa nu be bn lc mf li fx _ _ _ hbn (hP.sub [0, 1, 2, 3, 4, 5] rfl) (hD.sub [0, 1, 2, 3, 4, 5] (by decide) rfl) hS (lv_sub hl [0, 1] rfl)
    · have hlt : k ≤ 800 := by
        rcases Nat.lt_or_ge 800 k with q | q
        · exact absurd (show (800 : Int32) < nI k from nI_lt (a := 800) q (by omega)) c_1
        · exact q
      refine lv_aload_n hx hb dX6_readCover_17 rfl (lv_at hl 0 rfl) ?_
      refine va_get (D := E.1) (ci := 6) (v := .ref tk) (C := RX6) (T := TX6) (N := 3) hx hb hts inX6 hown hK hP 0 rfl rfl 0 (by decide) fl23 (fun _ h9 => h9) rfl dX6_readCover_18 ?_
      refine va_get (D := E.1) (ci := 10) (v := .int kd) (C := RX10) (T := TX10) (N := 5) hx hb hts inX10 hown hK hP 1 rfl rfl 1 (by decide) fl35 (fun _ h9 => h9) rfl dX6_readCover_21 ?_
      refine lv_if_eq (tgt := 60) hx hb dX6_readCover_24 (by decide) (fun c_2 => ?_) (fun c_2 => ?_)
      · exact kk fk fq kd sa nu be bn lc mf li fx _ _ _ hbn (hP.sub [0, 1, 2, 3, 4, 5] rfl) (hD.sub [0, 1, 2, 3, 4, 5] (by decide) rfl) hS (lv_sub hl [0, 1] rfl)
      · refine lv_aload_n hx hb dX6_readCover_27 rfl (lv_at hl 0 rfl) ?_
        refine lv_aload_n hx hb dX6_readCover_28 rfl (lv_at hl 1 rfl) ?_
        have hPc := hP.sub (ws' := [(h0, .inr (6, [.ref tk, .int fk, .int fq])), (tk, .inr (10, [.ref tp, .int kd, .int sa, .int nu, .int be])), (tp, .inr (9, [.ref by_, .int le])), (by_, .inl (E.2.1 0, 800, .inl f)), (into, .inr (1, [.ref bx, .int (nI bn), .int lc, .int mf, .int li])), (bx, .inl (E.2.1 0, 72, .inl fx))]) [0, 1, 2, 3, 4, 5] rfl
        have hDc := hD.sub (ws' := [(h0, .inr (6, [.ref tk, .int fk, .int fq])), (tk, .inr (10, [.ref tp, .int kd, .int sa, .int nu, .int be])), (tp, .inr (9, [.ref by_, .int le])), (by_, .inl (E.2.1 0, 800, .inl f)), (into, .inr (1, [.ref bx, .int (nI bn), .int lc, .int mf, .int li])), (bx, .inl (E.2.1 0, 72, .inl fx))]) [0, 1, 2, 3, 4, 5] (by decide) rfl
        have hFc := va_free (wc := [(h0, .inr (6, [.ref tk, .int fk, .int fq])), (tk, .inr (10, [.ref tp, .int kd, .int sa, .int nu, .int be])), (tp, .inr (9, [.ref by_, .int le])), (by_, .inl (E.2.1 0, 800, .inl f)), (into, .inr (1, [.ref bx, .int (nI bn), .int lc, .int mf, .int li])), (bx, .inl (E.2.1 0, 72, .inl fx))]) hD hS hA [0, 1, 2, 3, 4, 5] rfl
        refine va_calli (va_runV (As := [.ref into]) (rest := []) ⟨hx, hb, hml, hown, hts⟩ (c_X6_readLine l E h0 tk tp by_ fk fq kd sa nu be le f into bx bn lc mf li fx H.size hbn) (cwV 1 hts gX6_readCover_X6_readLine rfl rfl rfl hdV_X6_readLine ⟨Nat.le_of_ble_eq_true rfl, Nat.le_of_ble_eq_true rfl⟩) ⟨pcW_blind, va_recv hK hPc (ci := 6) (q0 := 0) rfl rfl, (pcW_pre hPc hkn hDc hst hS hFc)⟩ rfl rfl hl.1 rfl (lv_room (Nat.le_of_ble_eq_true rfl)) dX6_readCover_29 ⟨Nat.le_of_ble_eq_true rfl, Nat.le_of_ble_eq_true rfl⟩) hS (fun q _ h => hFc q h) hFc (fun r_3 u t H1 locs ht hvm hw_4 hB hz1 hk1 hS => ?_)
        obtain ⟨u_5, u_6, u_7, u_8, u_9, u_10, u_11, u_12, u_13, u_14⟩ := u
        obtain ⟨hf_15, hP1, hD1⟩ := hB
        rw [ht] at hP1
        try dsimp only at hw_4
        obtain ⟨hP, hD⟩ := va_join (wr := []) (w1 := [(h0, .inr (6, [.ref tk, .int u_5, .int u_6])), (tk, .inr (10, [.ref tp, .int u_7, .int u_8, .int u_9, .int u_10])), (tp, .inr (9, [.ref by_, .int le])), (by_, .inl (E.2.1 0, 800, .inl f)), (into, .inr (1, [.ref bx, .int (nI u_11), .int u_12, .int u_13, .int li])), (bx, .inl (E.2.1 0, 72, .inl u_14))]) hP hD [0, 1, 2, 3, 4, 5] [] rfl rfl (by decide) (by decide) hk1 hFc hP1 hD1
        generalize H1 = H at hP hS ⊢
        have hP : va_P E.1 vwCl [(h0, .inr (6, [.ref tk, .int u_5, .int u_6])), (tk, .inr (10, [.ref tp, .int u_7, .int u_8, .int u_9, .int u_10])), (tp, .inr (9, [.ref by_, .int le])), (by_, .inl (E.2.1 0, 800, .inl f)), (into, .inr (1, [.ref bx, .int (nI u_11), .int u_12, .int u_13, .int li])), (bx, .inl (E.2.1 0, 72, .inl u_14))] H := hP
        have hD : va_D A [(h0, .inr (6, [.ref tk, .int u_5, .int u_6])), (tk, .inr (10, [.ref tp, .int u_7, .int u_8, .int u_9, .int u_10])), (tp, .inr (9, [.ref by_, .int le])), (by_, .inl (E.2.1 0, 800, .inl f)), (into, .inr (1, [.ref bx, .int (nI u_11), .int u_12, .int u_13, .int li])), (bx, .inl (E.2.1 0, 72, .inl u_14))] := hD
        refine lv_if_eq (tgt := 42) hx hb dX6_readCover_32 (by decide) (fun c_16 => ?_) (fun c_16 => ?_)
        · exact kk2 u_5 u_6 u_7 u_8 u_9 u_10 u_11 u_12 u_13 li u_14 _ _ _ hf_15 (hP.sub [0, 1, 2, 3, 4, 5] rfl) (hD.sub [0, 1, 2, 3, 4, 5] (by decide) rfl) hS (lv_sub hl [0, 1] rfl)
        · refine lv_aload_n hx hb dX6_readCover_35 rfl (lv_at hl 0 rfl) ?_
          have hPc := hP.sub (ws' := [(h0, .inr (6, [.ref tk, .int u_5, .int u_6])), (tk, .inr (10, [.ref tp, .int u_7, .int u_8, .int u_9, .int u_10])), (tp, .inr (9, [.ref by_, .int le])), (by_, .inl (E.2.1 0, 800, .inl f))]) [0, 1, 2, 3] rfl
          have hDc := hD.sub (ws' := [(h0, .inr (6, [.ref tk, .int u_5, .int u_6])), (tk, .inr (10, [.ref tp, .int u_7, .int u_8, .int u_9, .int u_10])), (tp, .inr (9, [.ref by_, .int le])), (by_, .inl (E.2.1 0, 800, .inl f))]) [0, 1, 2, 3] (by decide) rfl
          have hFc := va_free (wc := [(h0, .inr (6, [.ref tk, .int u_5, .int u_6])), (tk, .inr (10, [.ref tp, .int u_7, .int u_8, .int u_9, .int u_10])), (tp, .inr (9, [.ref by_, .int le])), (by_, .inl (E.2.1 0, 800, .inl f))]) hD hS hA [0, 1, 2, 3] rfl
          refine va_calli (va_runV (As := []) (rest := []) ⟨hx, hb, hml, hown, hts⟩ (c_X6_takeStop l E h0 tk tp by_ u_5 u_6 u_7 u_8 u_9 u_10 le f H.size ) (cwV 0 hts gX6_readCover_X6_takeStop rfl rfl rfl hdV_X6_takeStop ⟨Nat.le_of_ble_eq_true rfl, Nat.le_of_ble_eq_true rfl⟩) ⟨pcW_blind, va_recv hK hPc (ci := 6) (q0 := 0) rfl rfl, (pcW_pre hPc hkn hDc hst hS hFc)⟩ rfl rfl hl.1 rfl (lv_room (Nat.le_of_ble_eq_true rfl)) dX6_readCover_36 ⟨Nat.le_of_ble_eq_true rfl, Nat.le_of_ble_eq_true rfl⟩) hS (fun q _ h => hFc q h) hFc (fun r_17 u t H1 locs ht hvm hw_18 hB hz1 hk1 hS => ?_)
          obtain ⟨u_19, u_20, u_21, u_22, u_23, u_24⟩ := u
          obtain ⟨hP1, hD1⟩ := hB
          rw [ht] at hP1
          try dsimp only at hw_18
          obtain ⟨hP, hD⟩ := va_join (wr := [(into, .inr (1, [.ref bx, .int (nI u_11), .int u_12, .int u_13, .int li])), (bx, .inl (E.2.1 0, 72, .inl u_14))]) (w1 := [(h0, .inr (6, [.ref tk, .int u_19, .int u_20])), (tk, .inr (10, [.ref tp, .int u_21, .int u_22, .int u_23, .int u_24])), (tp, .inr (9, [.ref by_, .int le])), (by_, .inl (E.2.1 0, 800, .inl f))]) hP hD [0, 1, 2, 3] [4, 5] rfl rfl (by decide) (by decide) hk1 hFc hP1 hD1
          generalize H1 = H at hP hS ⊢
          have hP : va_P E.1 vwCl [(into, .inr (1, [.ref bx, .int (nI u_11), .int u_12, .int u_13, .int li])), (bx, .inl (E.2.1 0, 72, .inl u_14)), (h0, .inr (6, [.ref tk, .int u_19, .int u_20])), (tk, .inr (10, [.ref tp, .int u_21, .int u_22, .int u_23, .int u_24])), (tp, .inr (9, [.ref by_, .int le])), (by_, .inl (E.2.1 0, 800, .inl f))] H := hP
          have hD : va_D A [(into, .inr (1, [.ref bx, .int (nI u_11), .int u_12, .int u_13, .int li])), (bx, .inl (E.2.1 0, 72, .inl u_14)), (h0, .inr (6, [.ref tk, .int u_19, .int u_20])), (tk, .inr (10, [.ref tp, .int u_21, .int u_22, .int u_23, .int u_24])), (tp, .inr (9, [.ref by_, .int le])), (by_, .inl (E.2.1 0, 800, .inl f))] := hD
          refine lv_if_ne (tgt := 44) hx hb dX6_readCover_39 (by decide) (fun c_25 => ?_) (fun c_25 => ?_)
          · refine lv_aload_n hx hb dX6_readCover_44 rfl (lv_at hl 1 rfl) ?_
            refine lv_dup hx hb dX6_readCover_45 rfl ?_
            refine va_get (D := E.1) (ci := 1) (v := .int li) (C := RX1) (T := TX1) (N := 5) hx hb hts inX1 hown hK hP 0 rfl rfl 4 (by decide) fl55 (fun _ h9 => h9) rfl dX6_readCover_46 ?_
            refine lv_iconst (v := 1) hx hb dX6_readCover_49 (by decide) ?_
            refine lv_iadd hx hb dX6_readCover_50 ?_
            refine lv_topi (fun x_26 ex_26 => ?_)
            refine va_put (D := E.1) (ci := 1) (v := .int x_26) (ty := .int) (C := RX1) (T := TX1) (N := 5) hx hb hts inX1 tyX1 tyX1_ok nmX1 hown hK hP hD hS 0 rfl rfl 4 (by decide) fl55 (fun _ h9 => h9) rfl (by decide +kernel) rfl rfl (Nat.le_of_ble_eq_true rfl) dX6_readCover_51 (fun H locs hP hD hS => ?_)
            have hP : va_P E.1 vwCl [(into, .inr (1, [.ref bx, .int (nI u_11), .int u_12, .int u_13, .int x_26])), (bx, .inl (E.2.1 0, 72, .inl u_14)), (h0, .inr (6, [.ref tk, .int u_19, .int u_20])), (tk, .inr (10, [.ref tp, .int u_21, .int u_22, .int u_23, .int u_24])), (tp, .inr (9, [.ref by_, .int le])), (by_, .inl (E.2.1 0, 800, .inl f))] H := hP
            have hD : va_D A [(into, .inr (1, [.ref bx, .int (nI u_11), .int u_12, .int u_13, .int x_26])), (bx, .inl (E.2.1 0, 72, .inl u_14)), (h0, .inr (6, [.ref tk, .int u_19, .int u_20])), (tk, .inr (10, [.ref tp, .int u_21, .int u_22, .int u_23, .int u_24])), (tp, .inr (9, [.ref by_, .int le])), (by_, .inl (E.2.1 0, 800, .inl f))] := hD
            refine lv_iinc (v := (nI (k + 1))) (lv' := [(2, .int (nI (k + 1))), (0, .ref h0), (1, .ref into)]) hx hb dX6_readCover_54 hl (k := 2) rfl (show nI k + 1 = nI (k + 1) from nI_1 k) (by decide) rfl (fun ls hl => ?_)
            refine lv_goto (tgt := 10) hx hb dX6_readCover_57 (by decide) ?_
            exact ih (k + 1) u_19 u_20 u_21 u_22 u_23 u_24 u_11 u_12 u_13 x_26 u_14 _ _ _ (by omega) (by omega) hf_15 (hP.sub [2, 3, 4, 5, 0, 1] rfl) (hD.sub [2, 3, 4, 5, 0, 1] (by decide) rfl) hS (lv_sub hl [1, 2, 0] rfl)
          · exact kk2 u_19 u_20 u_21 u_22 u_23 u_24 u_11 u_12 u_13 li u_14 _ _ _ hf_15 (hP.sub [2, 3, 4, 5, 0, 1] rfl) (hD.sub [2, 3, 4, 5, 0, 1] (by decide) rfl) hS (lv_sub hl [0, 1] rfl)
set_option maxHeartbeats 4000000 in
set_option maxRecDepth 100000 in
theorem c_X6_readCover (l : Launch) (E : vE) (h0 : Nat) (tk : Nat) (tp : Nat) (by_ : Nat) (fk : Int32) (fq : Int32) (kd : Int32) (sa : Int32) (nu : Int32) (be : Int32) (le : Int32) (f : Nat → Int32) (into : Nat) (bx : Nat) (bn : Nat) (lc : Int32) (mf : Int32) (li : Int32) (fx : Nat → Int32) (sz : Nat) (hbn : bn ≤ 12) : Met l yX6_readCover wsX6_readCover ({ frames := 8, cells := 0, slots := 0, locals := 174 }) (pcW E [.ref h0, .ref into] sz [(h0, .inr (6, [.ref tk, .int fk, .int fq])), (tk, .inr (10, [.ref tp, .int kd, .int sa, .int nu, .int be])), (tp, .inr (9, [.ref by_, .int le])), (by_, .inl (E.2.1 0, 800, .inl f)), (into, .inr (1, [.ref bx, .int (nI bn), .int lc, .int mf, .int li])), (bx, .inl (E.2.1 0, 72, .inl fx))]) (va_Qi (fun (r : Int32) (u : Int32 × Int32 × Int32 × Int32 × Int32 × Int32 × Nat × Int32 × Int32 × Int32 × (Nat → Int32)) => match u with | (fk2, fq2, kd2, sa2, nu2, be2, bn2, lc2, mf2, li2, fx2) => r = 0 ∨ r = 1) (fun (u : Int32 × Int32 × Int32 × Int32 × Int32 × Int32 × Nat × Int32 × Int32 × Int32 × (Nat → Int32)) (t : State) => match u with | (fk2, fq2, kd2, sa2, nu2, be2, bn2, lc2, mf2, li2, fx2) => (bn2 ≤ 12) ∧ wB E (va_A [(h0, .inr (6, [.ref tk, .int fk, .int fq])), (tk, .inr (10, [.ref tp, .int kd, .int sa, .int nu, .int be])), (tp, .inr (9, [.ref by_, .int le])), (by_, .inl (E.2.1 0, 800, .inl f)), (into, .inr (1, [.ref bx, .int (nI bn), .int lc, .int mf, .int li])), (bx, .inl (E.2.1 0, 72, .inl fx))] sz) [(h0, .inr (6, [.ref tk, .int fk2, .int fq2])), (tk, .inr (10, [.ref tp, .int kd2, .int sa2, .int nu2, .int be2])), (tp, .inr (9, [.ref by_, .int le])), (by_, .inl (E.2.1 0, 800, .inl f)), (into, .inr (1, [.ref bx, .int (nI bn2), .int lc2, .int mf2, .int li2])), (bx, .inl (E.2.1 0, 72, .inl fx2))] t) (va_A [(h0, .inr (6, [.ref tk, .int fk, .int fq])), (tk, .inr (10, [.ref tp, .int kd, .int sa, .int nu, .int be])), (tp, .inr (9, [.ref by_, .int le])), (by_, .inl (E.2.1 0, 800, .inl f)), (into, .inr (1, [.ref bx, .int (nI bn), .int lc, .int mf, .int li])), (bx, .inl (E.2.1 0, 72, .inl fx))] sz)) 0 0 (va_A [(h0, .inr (6, [.ref tk, .int fk, .int fq])), (tk, .inr (10, [.ref tp, .int kd, .int sa, .int nu, .int be])), (tp, .inr (9, [.ref by_, .int le])), (by_, .inl (E.2.1 0, 800, .inl f)), (into, .inr (1, [.ref bx, .int (nI bn), .int lc, .int mf, .int li])), (bx, .inl (E.2.1 0, 72, .inl fx))] sz) := by
  refine Met.ofW (cc := cX6_readCover) (maxL := 3) (ret := (some .boolean)) (by decide) rfl ?_
  intro p e s m args below meth c s₁ B hml hv
  obtain ⟨rfl, hsz, hP, hkn, hD0, hst⟩ := hv
  have hx := B.exec
  have hb := B.bytes
  have hr := B.returns
  have hts := atoms_spec (ws := wsX6_readCover) B.pre
  have hown : s.vm.findClass RX6 = some m.cls := findClass_of_methodNamed B.named
  have hlocks := B.notSynchronized
  subst hsz
  have hD := hD0.self (sz := s.heap.size)
  have hK := hkn.1
  have hAO := hkn.2.2.1
  generalize hAe : va_A [(h0, .inr (6, [.ref tk, .int fk, .int fq])), (tk, .inr (10, [.ref tp, .int kd, .int sa, .int nu, .int be])), (tp, .inr (9, [.ref by_, .int le])), (by_, .inl (E.2.1 0, 800, .inl f)), (into, .inr (1, [.ref bx, .int (nI bn), .int lc, .int mf, .int li])), (bx, .inl (E.2.1 0, 72, .inl fx))] s.heap.size = A at hD hst ⊢
  have hA : ∀ q : Nat, s.heap.size ≤ q → A q := fun q h => by rw [← hAe]; exact Or.inr h
  have hS : va_S A s.heap s.heap [] := va_S.rf
  have hP : va_P E.1 vwCl [(h0, .inr (6, [.ref tk, .int fk, .int fq])), (tk, .inr (10, [.ref tp, .int kd, .int sa, .int nu, .int be])), (tp, .inr (9, [.ref by_, .int le])), (by_, .inl (E.2.1 0, 800, .inl f)), (into, .inr (1, [.ref bx, .int (nI bn), .int lc, .int mf, .int li])), (bx, .inl (E.2.1 0, 72, .inl fx))] s.heap := hP
  have hl := lv_entry ([.ref h0, .ref into]) (n := 3) (Nat.le_of_ble_eq_true rfl)
  rw [lg_entry_eq]
  generalize (lg_sl ([.ref h0, .ref into]) ++ List.replicate (3 - (lg_sl ([.ref h0, .ref into])).length) Slot.unset).toArray = ls at hl ⊢
  have hl : lv_has ls 3 [(0, .ref h0), (1, .ref into)] := hl
  have fl23 := hts (.fieldLink RX6 23 "BoatsHome$Reader" "tokens" "LBoatsHome$Tokens;") (by first | exact List.mem_of_getElem? (i := 1) rfl | decide +kernel)
  have fl35 := hts (.fieldLink RX6 35 "BoatsHome$Tokens" "kind" "I") (by first | exact List.mem_of_getElem? (i := 2) rfl | decide +kernel)
  have fl55 := hts (.fieldLink RX6 55 "BoatsHome$Cover" "lines" "I") (by first | exact List.mem_of_getElem? (i := 3) rfl | decide +kernel)
  have inX1 : ∀ w ∈ u_ws RX1 TX1 5, w ∈ wsX6_readCover := by first | exact fun w h9 => (List.mem_cons_of_mem _ (List.mem_append_left _ (List.mem_append_right _ h9))) | decide +kernel
  have inX10 : ∀ w ∈ u_ws RX10 TX10 5, w ∈ wsX6_readCover := by first | exact fun w h9 => (List.mem_cons_of_mem _ (List.mem_append_left _ (List.mem_append_left _ (List.mem_append_right _ h9)))) | decide +kernel
  have inX6 : ∀ w ∈ u_ws RX6 TX6 3, w ∈ wsX6_readCover := by first | exact fun w h9 => (List.mem_cons_of_mem _ (List.mem_append_left _ (List.mem_append_left _ (List.mem_append_left _ (List.mem_append_right _ h9))))) | decide +kernel
  refine lv_aload_n hx hb dX6_readCover_0 rfl (lv_at hl 1 rfl) ?_
  have hPc := hP.sub (ws' := [(into, .inr (1, [.ref bx, .int (nI bn), .int lc, .int mf, .int li])), (bx, .inl (E.2.1 0, 72, .inl fx))]) [4, 5] rfl
  have hDc := hD.sub (ws' := [(into, .inr (1, [.ref bx, .int (nI bn), .int lc, .int mf, .int li])), (bx, .inl (E.2.1 0, 72, .inl fx))]) [4, 5] (by decide) rfl
  have hFc := va_free (wc := [(into, .inr (1, [.ref bx, .int (nI bn), .int lc, .int mf, .int li])), (bx, .inl (E.2.1 0, 72, .inl fx))]) hD hS hA [4, 5] rfl
  refine va_callv (va_runV (As := []) (rest := []) ⟨hx, hb, hml, hown, hts⟩ (c_X1_clear l E into bx bn lc mf li fx s.heap.size ) (cwV 0 hts gX6_readCover_X1_clear rfl rfl rfl hdV_X1_clear ⟨Nat.le_of_ble_eq_true rfl, Nat.le_of_ble_eq_true rfl⟩) ⟨pcW_blind, va_recv hK hPc (ci := 1) (q0 := 0) rfl rfl, (pcW_pre hPc hkn hDc hst hS hFc)⟩ rfl rfl hl.1 rfl (lv_room (Nat.le_of_ble_eq_true rfl)) dX6_readCover_1 ⟨Nat.le_of_ble_eq_true rfl, Nat.le_of_ble_eq_true rfl⟩) hS (fun q _ h => hFc q h) hFc (fun u t H1 locs ht hvm hw_2 hB hz1 hk1 hS => ?_)
  obtain ⟨hP1, hD1⟩ := hB
  rw [ht] at hP1
  try dsimp only at hw_2
  obtain ⟨hP, hD⟩ := va_join (wr := [(h0, .inr (6, [.ref tk, .int fk, .int fq])), (tk, .inr (10, [.ref tp, .int kd, .int sa, .int nu, .int be])), (tp, .inr (9, [.ref by_, .int le])), (by_, .inl (E.2.1 0, 800, .inl f))]) (w1 := [(into, .inr (1, [.ref bx, .int 0, .int (-1), .int (-1), .int 0])), (bx, .inl (E.2.1 0, 72, .inl fx))]) hP hD [4, 5] [0, 1, 2, 3] rfl rfl (by decide) (by decide) hk1 hFc hP1 hD1
  generalize H1 = H at hP hS ⊢
  have hP : va_P E.1 vwCl [(h0, .inr (6, [.ref tk, .int fk, .int fq])), (tk, .inr (10, [.ref tp, .int kd, .int sa, .int nu, .int be])), (tp, .inr (9, [.ref by_, .int le])), (by_, .inl (E.2.1 0, 800, .inl f)), (into, .inr (1, [.ref bx, .int 0, .int (-1), .int (-1), .int 0])), (bx, .inl (E.2.1 0, 72, .inl fx))] H := hP
  have hD : va_D A [(h0, .inr (6, [.ref tk, .int fk, .int fq])), (tk, .inr (10, [.ref tp, .int kd, .int sa, .int nu, .int be])), (tp, .inr (9, [.ref by_, .int le])), (by_, .inl (E.2.1 0, 800, .inl f)), (into, .inr (1, [.ref bx, .int 0, .int (-1), .int (-1), .int 0])), (bx, .inl (E.2.1 0, 72, .inl fx))] := hD
  refine lv_aload_n hx hb dX6_readCover_4 rfl (lv_at hl 0 rfl) ?_
  have hPc := hP.sub (ws' := [(h0, .inr (6, [.ref tk, .int fk, .int fq])), (tk, .inr (10, [.ref tp, .int kd, .int sa, .int nu, .int be])), (tp, .inr (9, [.ref by_, .int le])), (by_, .inl (E.2.1 0, 800, .inl f))]) [0, 1, 2, 3] rfl
  have hDc := hD.sub (ws' := [(h0, .inr (6, [.ref tk, .int fk, .int fq])), (tk, .inr (10, [.ref tp, .int kd, .int sa, .int nu, .int be])), (tp, .inr (9, [.ref by_, .int le])), (by_, .inl (E.2.1 0, 800, .inl f))]) [0, 1, 2, 3] (by decide) rfl
  have hFc := va_free (wc := [(h0, .inr (6, [.ref tk, .int fk, .int fq])), (tk, .inr (10, [.ref tp, .int kd, .int sa, .int nu, .int be])), (tp, .inr (9, [.ref by_, .int le])), (by_, .inl (E.2.1 0, 800, .inl f))]) hD hS hA [0, 1, 2, 3] rfl
  refine va_callv (va_runV (As := []) (rest := []) ⟨hx, hb, hml, hown, hts⟩ (c_X6_beginText l E h0 tk tp by_ fk fq kd sa nu be le f H.size ) (cwV 0 hts gX6_readCover_X6_beginText rfl rfl rfl hdV_X6_beginText ⟨Nat.le_of_ble_eq_true rfl, Nat.le_of_ble_eq_true rfl⟩) ⟨pcW_blind, va_recv hK hPc (ci := 6) (q0 := 0) rfl rfl, (pcW_pre hPc hkn hDc hst hS hFc)⟩ rfl rfl hl.1 rfl (lv_room (Nat.le_of_ble_eq_true rfl)) dX6_readCover_5 ⟨Nat.le_of_ble_eq_true rfl, Nat.le_of_ble_eq_true rfl⟩) hS (fun q _ h => hFc q h) hFc (fun u t H1 locs ht hvm hw_4 hB hz1 hk1 hS => ?_)
  obtain ⟨u_5, u_6, u_7, u_8, u_9, u_10⟩ := u
  obtain ⟨hP1, hD1⟩ := hB
  rw [ht] at hP1
  try dsimp only at hw_4
  obtain ⟨hP, hD⟩ := va_join (wr := [(into, .inr (1, [.ref bx, .int 0, .int (-1), .int (-1), .int 0])), (bx, .inl (E.2.1 0, 72, .inl fx))]) (w1 := [(h0, .inr (6, [.ref tk, .int u_5, .int u_6])), (tk, .inr (10, [.ref tp, .int u_7, .int u_8, .int u_9, .int u_10])), (tp, .inr (9, [.ref by_, .int le])), (by_, .inl (E.2.1 0, 800, .inl f))]) hP hD [0, 1, 2, 3] [4, 5] rfl rfl (by decide) (by decide) hk1 hFc hP1 hD1
  generalize H1 = H at hP hS ⊢
  have hP : va_P E.1 vwCl [(into, .inr (1, [.ref bx, .int 0, .int (-1), .int (-1), .int 0])), (bx, .inl (E.2.1 0, 72, .inl fx)), (h0, .inr (6, [.ref tk, .int u_5, .int u_6])), (tk, .inr (10, [.ref tp, .int u_7, .int u_8, .int u_9, .int u_10])), (tp, .inr (9, [.ref by_, .int le])), (by_, .inl (E.2.1 0, 800, .inl f))] H := hP
  have hD : va_D A [(into, .inr (1, [.ref bx, .int 0, .int (-1), .int (-1), .int 0])), (bx, .inl (E.2.1 0, 72, .inl fx)), (h0, .inr (6, [.ref tk, .int u_5, .int u_6])), (tk, .inr (10, [.ref tp, .int u_7, .int u_8, .int u_9, .int u_10])), (tp, .inr (9, [.ref by_, .int le])), (by_, .inl (E.2.1 0, 800, .inl f))] := hD
  refine lv_iconst (v := 0) hx hb dX6_readCover_8 (by decide) ?_
  refine lv_istore_n (lv' := [(2, .int 0), (0, .ref h0), (1, .ref into)]) hx hb dX6_readCover_9 rfl hl (by decide) rfl (fun ls hl => ?_)
  have hPl := hP.sub (ws' := [(h0, .inr (6, [.ref tk, .int u_5, .int u_6])), (tk, .inr (10, [.ref tp, .int u_7, .int u_8, .int u_9, .int u_10])), (tp, .inr (9, [.ref by_, .int le])), (by_, .inl (E.2.1 0, 800, .inl f)), (into, .inr (1, [.ref bx, .int 0, .int (-1), .int (-1), .int 0])), (bx, .inl (E.2.1 0, 72, .inl fx))]) [2, 3, 4, 5, 0, 1] rfl
  have hDl := hD.sub (ws' := [(h0, .inr (6, [.ref tk, .int u_5, .int u_6])), (tk, .inr (10, [.ref tp, .int u_7, .int u_8, .int u_9, .int u_10])), (tp, .inr (9, [.ref by_, .int le])), (by_, .inl (E.2.1 0, 800, .inl f)), (into, .inr (1, [.ref bx, .int 0, .int (-1), .int (-1), .int 0])), (bx, .inl (E.2.1 0, 72, .inl fx))]) [2, 3, 4, 5, 0, 1] (by decide) rfl
  refine lg_cover E h0 tk tp by_ le f into bx hx hb hml hown hts hkn hst hA  (fun n_11 n_12 n_13 n_14 n_15 n_16 n_17 n_18 n_19 n_20 n_21 H locs ls hbn hP hD hS hl => ?_) (fun w_22 w_23 w_24 w_25 w_26 w_27 w_28 w_29 w_30 w_31 w_32 H locs ls hbn hP hD hS hl => ?_) 802 0 u_5 u_6 u_7 u_8 u_9 u_10 0 (-1) (-1) 0 fx _ _ _ (by omega) (by omega) (by omega) hPl hDl hS (lv_sub hl [1, 2, 0] rfl)
  · have hP : va_P E.1 vwCl [(h0, .inr (6, [.ref tk, .int n_11, .int n_12])), (tk, .inr (10, [.ref tp, .int n_13, .int n_14, .int n_15, .int n_16])), (tp, .inr (9, [.ref by_, .int le])), (by_, .inl (E.2.1 0, 800, .inl f)), (into, .inr (1, [.ref bx, .int (nI n_17), .int n_18, .int n_19, .int n_20])), (bx, .inl (E.2.1 0, 72, .inl n_21))] H := hP
    have hD : va_D A [(h0, .inr (6, [.ref tk, .int n_11, .int n_12])), (tk, .inr (10, [.ref tp, .int n_13, .int n_14, .int n_15, .int n_16])), (tp, .inr (9, [.ref by_, .int le])), (by_, .inl (E.2.1 0, 800, .inl f)), (into, .inr (1, [.ref bx, .int (nI n_17), .int n_18, .int n_19, .int n_20])), (bx, .inl (E.2.1 0, 72, .inl n_21))] := hD
    refine lv_aload_n hx hb dX6_readCover_60 rfl (lv_at hl 1 rfl) ?_
    have hPc := hP.sub (ws' := [(into, .inr (1, [.ref bx, .int (nI n_17), .int n_18, .int n_19, .int n_20])), (bx, .inl (E.2.1 0, 72, .inl n_21))]) [4, 5] rfl
    have hDc := hD.sub (ws' := [(into, .inr (1, [.ref bx, .int (nI n_17), .int n_18, .int n_19, .int n_20])), (bx, .inl (E.2.1 0, 72, .inl n_21))]) [4, 5] (by decide) rfl
    have hFc := va_free (wc := [(into, .inr (1, [.ref bx, .int (nI n_17), .int n_18, .int n_19, .int n_20])), (bx, .inl (E.2.1 0, 72, .inl n_21))]) hD hS hA [4, 5] rfl
    refine va_callv (va_runV (As := []) (rest := []) ⟨hx, hb, hml, hown, hts⟩ (c_X1_fillUntold l E into bx n_17 n_18 n_19 n_20 n_21 H.size ) (cwV 0 hts gX6_readCover_X1_fillUntold rfl rfl rfl hdV_X1_fillUntold ⟨Nat.le_of_ble_eq_true rfl, Nat.le_of_ble_eq_true rfl⟩) ⟨pcW_blind, va_recv hK hPc (ci := 1) (q0 := 0) rfl rfl, (pcW_pre hPc hkn hDc hst hS hFc)⟩ rfl rfl hl.1 rfl (lv_room (Nat.le_of_ble_eq_true rfl)) dX6_readCover_61 ⟨Nat.le_of_ble_eq_true rfl, Nat.le_of_ble_eq_true rfl⟩) hS (fun q _ h => hFc q h) hFc (fun u t H1 locs ht hvm hw_34 hB hz1 hk1 hS => ?_)
    obtain ⟨u_35, u_36⟩ := u
    obtain ⟨hP1, hD1⟩ := hB
    rw [ht] at hP1
    try dsimp only at hw_34
    obtain ⟨hP, hD⟩ := va_join (wr := [(h0, .inr (6, [.ref tk, .int n_11, .int n_12])), (tk, .inr (10, [.ref tp, .int n_13, .int n_14, .int n_15, .int n_16])), (tp, .inr (9, [.ref by_, .int le])), (by_, .inl (E.2.1 0, 800, .inl f))]) (w1 := [(into, .inr (1, [.ref bx, .int (nI n_17), .int u_35, .int u_36, .int n_20])), (bx, .inl (E.2.1 0, 72, .inl n_21))]) hP hD [4, 5] [0, 1, 2, 3] rfl rfl (by decide) (by decide) hk1 hFc hP1 hD1
    generalize H1 = H at hP hS ⊢
    have hP : va_P E.1 vwCl [(h0, .inr (6, [.ref tk, .int n_11, .int n_12])), (tk, .inr (10, [.ref tp, .int n_13, .int n_14, .int n_15, .int n_16])), (tp, .inr (9, [.ref by_, .int le])), (by_, .inl (E.2.1 0, 800, .inl f)), (into, .inr (1, [.ref bx, .int (nI n_17), .int u_35, .int u_36, .int n_20])), (bx, .inl (E.2.1 0, 72, .inl n_21))] H := hP
    have hD : va_D A [(h0, .inr (6, [.ref tk, .int n_11, .int n_12])), (tk, .inr (10, [.ref tp, .int n_13, .int n_14, .int n_15, .int n_16])), (tp, .inr (9, [.ref by_, .int le])), (by_, .inl (E.2.1 0, 800, .inl f)), (into, .inr (1, [.ref bx, .int (nI n_17), .int u_35, .int u_36, .int n_20])), (bx, .inl (E.2.1 0, 72, .inl n_21))] := hD
    refine lv_iconst (v := 1) hx hb dX6_readCover_64 (by decide) ?_
    have hP9 := hP.sub (ws' := [(h0, .inr (6, [.ref tk, .int n_11, .int n_12])), (tk, .inr (10, [.ref tp, .int n_13, .int n_14, .int n_15, .int n_16])), (tp, .inr (9, [.ref by_, .int le])), (by_, .inl (E.2.1 0, 800, .inl f)), (into, .inr (1, [.ref bx, .int (nI n_17), .int u_35, .int u_36, .int n_20])), (bx, .inl (E.2.1 0, 72, .inl n_21))]) [0, 1, 2, 3, 4, 5] rfl
    have hD9 := hD.sub (ws' := [(h0, .inr (6, [.ref tk, .int n_11, .int n_12])), (tk, .inr (10, [.ref tp, .int n_13, .int n_14, .int n_15, .int n_16])), (tp, .inr (9, [.ref by_, .int le])), (by_, .inl (E.2.1 0, 800, .inl f)), (into, .inr (1, [.ref bx, .int (nI n_17), .int u_35, .int u_36, .int n_20])), (bx, .inl (E.2.1 0, 72, .inl n_21))]) [0, 1, 2, 3, 4, 5] (by decide) rfl
    exact W.zret (v := 1) hx hb hr (by decide) (fun t ht hW => ⟨⟨1, (n_11, n_12, n_13, n_14, n_15, n_16, n_17, u_35, u_36, n_20, n_21), rfl, Or.inr rfl, hbn, by rw [ht]; exact hP9, hD9⟩, hS.F ht⟩) hS.2.2 dX6_readCover_65
  · have hP : va_P E.1 vwCl [(h0, .inr (6, [.ref tk, .int w_22, .int w_23])), (tk, .inr (10, [.ref tp, .int w_24, .int w_25, .int w_26, .int w_27])), (tp, .inr (9, [.ref by_, .int le])), (by_, .inl (E.2.1 0, 800, .inl f)), (into, .inr (1, [.ref bx, .int (nI w_28), .int w_29, .int w_30, .int w_31])), (bx, .inl (E.2.1 0, 72, .inl w_32))] H := hP
    have hD : va_D A [(h0, .inr (6, [.ref tk, .int w_22, .int w_23])), (tk, .inr (10, [.ref tp, .int w_24, .int w_25, .int w_26, .int w_27])), (tp, .inr (9, [.ref by_, .int le])), (by_, .inl (E.2.1 0, 800, .inl f)), (into, .inr (1, [.ref bx, .int (nI w_28), .int w_29, .int w_30, .int w_31])), (bx, .inl (E.2.1 0, 72, .inl w_32))] := hD
    refine lv_iconst (v := 0) hx hb dX6_readCover_42 (by decide) ?_
    have hP9 := hP.sub (ws' := [(h0, .inr (6, [.ref tk, .int w_22, .int w_23])), (tk, .inr (10, [.ref tp, .int w_24, .int w_25, .int w_26, .int w_27])), (tp, .inr (9, [.ref by_, .int le])), (by_, .inl (E.2.1 0, 800, .inl f)), (into, .inr (1, [.ref bx, .int (nI w_28), .int w_29, .int w_30, .int w_31])), (bx, .inl (E.2.1 0, 72, .inl w_32))]) [0, 1, 2, 3, 4, 5] rfl
    have hD9 := hD.sub (ws' := [(h0, .inr (6, [.ref tk, .int w_22, .int w_23])), (tk, .inr (10, [.ref tp, .int w_24, .int w_25, .int w_26, .int w_27])), (tp, .inr (9, [.ref by_, .int le])), (by_, .inl (E.2.1 0, 800, .inl f)), (into, .inr (1, [.ref bx, .int (nI w_28), .int w_29, .int w_30, .int w_31])), (bx, .inl (E.2.1 0, 72, .inl w_32))]) [0, 1, 2, 3, 4, 5] (by decide) rfl
    exact W.zret (v := 0) hx hb hr (by decide) (fun t ht hW => ⟨⟨0, (w_22, w_23, w_24, w_25, w_26, w_27, w_28, w_29, w_30, w_31, w_32), rfl, Or.inl rfl, hbn, by rw [ht]; exact hP9, hD9⟩, hS.F ht⟩) hS.2.2 dX6_readCover_43
