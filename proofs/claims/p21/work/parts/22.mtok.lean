set_option maxHeartbeats 4000000 in
set_option maxRecDepth 100000 in
theorem c_X12_see (l : Launch) (E : vE) (h0 : Nat) (q : Nat → Nat) (i_taped : Int32) (i_sort : Int32) (i_what : Int32) (i_at : Int32) (i_end : Int32) (i_worth : Int32) (i_faultKind : Int32) (i_faultPlace : Int32) (i_got : Int32) (i_worked : Int32) (i_deliveries : Int32) (i_isPlanned : Int32) (i_bestDone : Int32) (i_bestCost : Int32) (sz9 : Nat) (kk : Nat) (a_tape : Nat → Int32) (sz : Nat) (hsz : sz9 ≤ 800) (hkk : kk < 2 ^ 31) : Met l yX12_see wsX12_see ({ frames := 0, cells := 0, slots := 0, locals := 0 }) (pcW E [.ref h0, .int (nI kk)] sz [(h0, .inr (12, mG q i_taped (nI sz9) i_sort i_what i_at i_end i_worth i_faultKind i_faultPlace i_got i_worked i_deliveries i_isPlanned i_bestDone i_bestCost)), (q 0, .inl (E.2.1 3, 800, .inl a_tape))]) (va_Qi (fun (r : Int32) (_ : Unit) => kk < sz9 ∨ r = -1) (fun (_ : Unit) (t : State) => wB E (va_A [(h0, .inr (12, mG q i_taped (nI sz9) i_sort i_what i_at i_end i_worth i_faultKind i_faultPlace i_got i_worked i_deliveries i_isPlanned i_bestDone i_bestCost)), (q 0, .inl (E.2.1 3, 800, .inl a_tape))] sz) [(h0, .inr (12, mG q i_taped (nI sz9) i_sort i_what i_at i_end i_worth i_faultKind i_faultPlace i_got i_worked i_deliveries i_isPlanned i_bestDone i_bestCost)), (q 0, .inl (E.2.1 3, 800, .inl a_tape))] t) (va_A [(h0, .inr (12, mG q i_taped (nI sz9) i_sort i_what i_at i_end i_worth i_faultKind i_faultPlace i_got i_worked i_deliveries i_isPlanned i_bestDone i_bestCost)), (q 0, .inl (E.2.1 3, 800, .inl a_tape))] sz)) 0 0 (va_A [(h0, .inr (12, mG q i_taped (nI sz9) i_sort i_what i_at i_end i_worth i_faultKind i_faultPlace i_got i_worked i_deliveries i_isPlanned i_bestDone i_bestCost)), (q 0, .inl (E.2.1 3, 800, .inl a_tape))] sz) := by
  refine Met.ofW (cc := cX12_see) (maxL := 2) (ret := (some .int)) (by decide) rfl ?_
  intro p e s m args below meth c s₁ B hml hv
  obtain ⟨rfl, hsz, hP, hkn, hD0, hst⟩ := hv
  have hx := B.exec
  have hb := B.bytes
  have hr := B.returns
  have hts := atoms_spec (ws := wsX12_see) B.pre
  have hown : s.vm.findClass RX12 = some m.cls := findClass_of_methodNamed B.named
  have hlocks := B.notSynchronized
  subst hsz
  have hD := hD0.self (sz := s.heap.size)
  have hK := hkn.1
  have hAO := hkn.2.2.1
  generalize hAe : va_A [(h0, .inr (12, mG q i_taped (nI sz9) i_sort i_what i_at i_end i_worth i_faultKind i_faultPlace i_got i_worked i_deliveries i_isPlanned i_bestDone i_bestCost)), (q 0, .inl (E.2.1 3, 800, .inl a_tape))] s.heap.size = A at hD hst ⊢
  have hA : ∀ q : Nat, s.heap.size ≤ q → A q := fun q h => by rw [← hAe]; exact Or.inr h
  have hS : va_S A s.heap s.heap [] := va_S.rf
  have hP : va_P E.1 vwCl [(h0, .inr (12, mG q i_taped (nI sz9) i_sort i_what i_at i_end i_worth i_faultKind i_faultPlace i_got i_worked i_deliveries i_isPlanned i_bestDone i_bestCost)), (q 0, .inl (E.2.1 3, 800, .inl a_tape))] s.heap := hP
  have hl := lv_entry ([.ref h0, .int (nI kk)]) (n := 2) (Nat.le_of_ble_eq_true rfl)
  rw [lg_entry_eq]
  generalize (lg_sl ([.ref h0, .int (nI kk)]) ++ List.replicate (2 - (lg_sl ([.ref h0, .int (nI kk)])).length) Slot.unset).toArray = ls at hl ⊢
  have hl : lv_has ls 2 [(0, .ref h0), (1, .int (nI kk))] := hl
  have fl7 := hts (.fieldLink RX12 7 "BoatsHomeModel" "tape" "[B") (by first | exact List.mem_of_getElem? (i := 2) rfl | decide +kernel)
  have fl155 := hts (.fieldLink RX12 155 "BoatsHomeModel" "size" "I") (by first | exact List.mem_of_getElem? (i := 1) rfl | decide +kernel)
  have inX12 : ∀ w ∈ u_ws RX12 TX12 59, w ∈ wsX12_see := by first | exact fun w h9 => (List.mem_cons_of_mem _ (List.mem_append_right _ h9)) | decide +kernel
  refine lv_iload_n hx hb dX12_see_0 rfl (lv_at hl 1 rfl) ?_
  refine lv_aload_n hx hb dX12_see_1 rfl (lv_at hl 0 rfl) ?_
  refine va_get (D := E.1) (ci := 12) (v := .int (nI sz9)) (C := RX12) (T := TX12) (N := 59) hx hb hts inX12 hown hK hP 0 rfl rfl 2 (by decide) fl155 (fun _ h9 => h9) rfl dX12_see_2 ?_
  refine lv_icmp_ge (tgt := 21) hx hb dX12_see_5 (by decide) (fun c_1 => ?_) (fun c_1 => ?_)
  · refine lv_iconst (v := (-1)) hx hb dX12_see_21 (by decide) ?_
    have hP9 := hP.sub (ws' := [(h0, .inr (12, mG q i_taped (nI sz9) i_sort i_what i_at i_end i_worth i_faultKind i_faultPlace i_got i_worked i_deliveries i_isPlanned i_bestDone i_bestCost)), (q 0, .inl (E.2.1 3, 800, .inl a_tape))]) [0, 1] rfl
    have hD9 := hD.sub (ws' := [(h0, .inr (12, mG q i_taped (nI sz9) i_sort i_what i_at i_end i_worth i_faultKind i_faultPlace i_got i_worked i_deliveries i_isPlanned i_bestDone i_bestCost)), (q 0, .inl (E.2.1 3, 800, .inl a_tape))]) [0, 1] (by decide) rfl
    exact W.iret (v := (-1)) hx hb hr (fun t ht hW => ⟨⟨(-1), (), rfl, Or.inr rfl, by rw [ht]; exact hP9, hD9⟩, hS.F ht⟩) hS.2.2 dX12_see_22
  · have hlt : kk < sz9 := lt_of_nle (by omega) c_1
    refine lv_aload_n hx hb dX12_see_8 rfl (lv_at hl 0 rfl) ?_
    refine va_get (D := E.1) (ci := 12) (v := .ref (q 0)) (C := RX12) (T := TX12) (N := 59) hx hb hts inX12 hown hK hP 0 rfl rfl 0 (by decide) fl7 (fun _ h9 => h9) rfl dX12_see_9 ?_
    refine lv_iload_n hx hb dX12_see_12 rfl (lv_at hl 1 rfl) ?_
    have hi_2 : vp_in (nI kk) 800 := vp_in_nI (by omega) (by decide)
    refine va_bald hx hb hK hP 1 3 rfl rfl hi_2 dX12_see_13 ?_
    refine lv_topi (fun x_3 ex_3 => ?_)
    refine lv_sipush (v := 255) hx hb dX12_see_14 (by decide) ?_
    refine lv_iand hx hb dX12_see_17 ?_
    refine lv_topi (fun x_4 ex_4 => ?_)
    refine lv_goto (tgt := 22) hx hb dX12_see_18 (by decide) ?_
    have hP9 := hP.sub (ws' := [(h0, .inr (12, mG q i_taped (nI sz9) i_sort i_what i_at i_end i_worth i_faultKind i_faultPlace i_got i_worked i_deliveries i_isPlanned i_bestDone i_bestCost)), (q 0, .inl (E.2.1 3, 800, .inl a_tape))]) [0, 1] rfl
    have hD9 := hD.sub (ws' := [(h0, .inr (12, mG q i_taped (nI sz9) i_sort i_what i_at i_end i_worth i_faultKind i_faultPlace i_got i_worked i_deliveries i_isPlanned i_bestDone i_bestCost)), (q 0, .inl (E.2.1 3, 800, .inl a_tape))]) [0, 1] (by decide) rfl
    exact W.iret (v := x_4) hx hb hr (fun t ht hW => ⟨⟨x_4, (), rfl, Or.inl hlt, by rw [ht]; exact hP9, hD9⟩, hS.F ht⟩) hS.2.2 dX12_see_22
set_option maxHeartbeats 4000000 in
set_option maxRecDepth 100000 in
theorem c_X12_wrong (l : Launch) (E : vE) (h0 : Nat) (q : Nat → Nat) (i_taped : Int32) (i_size : Int32) (i_sort : Int32) (i_what : Int32) (i_at : Int32) (i_end : Int32) (i_worth : Int32) (i_faultKind : Int32) (i_faultPlace : Int32) (i_got : Int32) (i_worked : Int32) (i_deliveries : Int32) (i_isPlanned : Int32) (i_bestDone : Int32) (i_bestCost : Int32) (kd : Int32) (sz : Nat) : Met l yX12_wrong wsX12_wrong ({ frames := 0, cells := 0, slots := 0, locals := 0 }) (pcW E [.ref h0, .int kd] sz [(h0, .inr (12, mG q i_taped i_size i_sort i_what i_at i_end i_worth i_faultKind i_faultPlace i_got i_worked i_deliveries i_isPlanned i_bestDone i_bestCost))]) (va_Qi (fun (r : Int32) (_ : Unit) => r = 0) (fun (_ : Unit) (t : State) => wB E (va_A [(h0, .inr (12, mG q i_taped i_size i_sort i_what i_at i_end i_worth i_faultKind i_faultPlace i_got i_worked i_deliveries i_isPlanned i_bestDone i_bestCost))] sz) [(h0, .inr (12, mG q i_taped i_size i_sort i_what i_at i_end i_worth kd i_at i_got i_worked i_deliveries i_isPlanned i_bestDone i_bestCost))] t) (va_A [(h0, .inr (12, mG q i_taped i_size i_sort i_what i_at i_end i_worth i_faultKind i_faultPlace i_got i_worked i_deliveries i_isPlanned i_bestDone i_bestCost))] sz)) 0 0 (va_A [(h0, .inr (12, mG q i_taped i_size i_sort i_what i_at i_end i_worth i_faultKind i_faultPlace i_got i_worked i_deliveries i_isPlanned i_bestDone i_bestCost))] sz) := by
  refine Met.ofW (cc := cX12_wrong) (maxL := 2) (ret := (some .boolean)) (by decide) rfl ?_
  intro p e s m args below meth c s₁ B hml hv
  obtain ⟨rfl, hsz, hP, hkn, hD0, hst⟩ := hv
  have hx := B.exec
  have hb := B.bytes
  have hr := B.returns
  have hts := atoms_spec (ws := wsX12_wrong) B.pre
  have hown : s.vm.findClass RX12 = some m.cls := findClass_of_methodNamed B.named
  have hlocks := B.notSynchronized
  subst hsz
  have hD := hD0.self (sz := s.heap.size)
  have hK := hkn.1
  have hAO := hkn.2.2.1
  generalize hAe : va_A [(h0, .inr (12, mG q i_taped i_size i_sort i_what i_at i_end i_worth i_faultKind i_faultPlace i_got i_worked i_deliveries i_isPlanned i_bestDone i_bestCost))] s.heap.size = A at hD hst ⊢
  have hA : ∀ q : Nat, s.heap.size ≤ q → A q := fun q h => by rw [← hAe]; exact Or.inr h
  have hS : va_S A s.heap s.heap [] := va_S.rf
  have hP : va_P E.1 vwCl [(h0, .inr (12, mG q i_taped i_size i_sort i_what i_at i_end i_worth i_faultKind i_faultPlace i_got i_worked i_deliveries i_isPlanned i_bestDone i_bestCost))] s.heap := hP
  have hl := lv_entry ([.ref h0, .int kd]) (n := 2) (Nat.le_of_ble_eq_true rfl)
  rw [lg_entry_eq]
  generalize (lg_sl ([.ref h0, .int kd]) ++ List.replicate (2 - (lg_sl ([.ref h0, .int kd])).length) Slot.unset).toArray = ls at hl ⊢
  have hl : lv_has ls 2 [(0, .ref h0), (1, .int kd)] := hl
  have fl13 := hts (.fieldLink RX12 13 "BoatsHomeModel" "faultPlace" "I") (by first | exact List.mem_of_getElem? (i := 3) rfl | decide +kernel)
  have fl177 := hts (.fieldLink RX12 177 "BoatsHomeModel" "at" "I") (by first | exact List.mem_of_getElem? (i := 2) rfl | decide +kernel)
  have fl200 := hts (.fieldLink RX12 200 "BoatsHomeModel" "faultKind" "I") (by first | exact List.mem_of_getElem? (i := 1) rfl | decide +kernel)
  have inX12 : ∀ w ∈ u_ws RX12 TX12 59, w ∈ wsX12_wrong := by first | exact fun w h9 => (List.mem_cons_of_mem _ (List.mem_append_right _ h9)) | decide +kernel
  refine lv_aload_n hx hb dX12_wrong_0 rfl (lv_at hl 0 rfl) ?_
  refine lv_iload_n hx hb dX12_wrong_1 rfl (lv_at hl 1 rfl) ?_
  refine va_put (D := E.1) (ci := 12) (v := .int kd) (ty := .int) (C := RX12) (T := TX12) (N := 59) hx hb hts inX12 tyX12 tyX12_ok nmX12 hown hK hP hD hS 0 rfl rfl 8 (by decide) fl200 (fun _ h9 => h9) rfl (by decide +kernel) rfl rfl (Nat.le_of_ble_eq_true rfl) dX12_wrong_2 (fun H locs hP hD hS => ?_)
  have hP : va_P E.1 vwCl [(h0, .inr (12, mG q i_taped i_size i_sort i_what i_at i_end i_worth kd i_faultPlace i_got i_worked i_deliveries i_isPlanned i_bestDone i_bestCost))] H := hP
  have hD : va_D A [(h0, .inr (12, mG q i_taped i_size i_sort i_what i_at i_end i_worth kd i_faultPlace i_got i_worked i_deliveries i_isPlanned i_bestDone i_bestCost))] := hD
  refine lv_aload_n hx hb dX12_wrong_5 rfl (lv_at hl 0 rfl) ?_
  refine lv_aload_n hx hb dX12_wrong_6 rfl (lv_at hl 0 rfl) ?_
  refine va_get (D := E.1) (ci := 12) (v := .int i_at) (C := RX12) (T := TX12) (N := 59) hx hb hts inX12 hown hK hP 0 rfl rfl 5 (by decide) fl177 (fun _ h9 => h9) rfl dX12_wrong_7 ?_
  refine va_put (D := E.1) (ci := 12) (v := .int i_at) (ty := .int) (C := RX12) (T := TX12) (N := 59) hx hb hts inX12 tyX12 tyX12_ok nmX12 hown hK hP hD hS 0 rfl rfl 9 (by decide) fl13 (fun _ h9 => h9) rfl (by decide +kernel) rfl rfl (Nat.le_of_ble_eq_true rfl) dX12_wrong_10 (fun H locs hP hD hS => ?_)
  have hP : va_P E.1 vwCl [(h0, .inr (12, mG q i_taped i_size i_sort i_what i_at i_end i_worth kd i_at i_got i_worked i_deliveries i_isPlanned i_bestDone i_bestCost))] H := hP
  have hD : va_D A [(h0, .inr (12, mG q i_taped i_size i_sort i_what i_at i_end i_worth kd i_at i_got i_worked i_deliveries i_isPlanned i_bestDone i_bestCost))] := hD
  refine lv_iconst (v := 0) hx hb dX12_wrong_13 (by decide) ?_
  have hP9 := hP.sub (ws' := [(h0, .inr (12, mG q i_taped i_size i_sort i_what i_at i_end i_worth kd i_at i_got i_worked i_deliveries i_isPlanned i_bestDone i_bestCost))]) [0] rfl
  have hD9 := hD.sub (ws' := [(h0, .inr (12, mG q i_taped i_size i_sort i_what i_at i_end i_worth kd i_at i_got i_worked i_deliveries i_isPlanned i_bestDone i_bestCost))]) [0] (by decide) rfl
  exact W.zret (v := 0) hx hb hr (by decide) (fun t ht hW => ⟨⟨0, (), rfl, rfl, by rw [ht]; exact hP9, hD9⟩, hS.F ht⟩) hS.2.2 dX12_wrong_14
set_option maxHeartbeats 4000000 in
set_option maxRecDepth 100000 in
theorem lm_key2 {p : Program} {l : Launch} {e : Env} {s : State} {m : MethodId} {args : Array Value} {below : List Frame} {meth : Method} {c : Code} {Q : State → Prop} {A : Nat → Prop} (E : vE) (h0 : Nat) (q : Nat → Nat) (i_taped : Int32) (i_sort : Int32) (i_what : Int32) (i_at : Int32) (i_end : Int32) (i_worth : Int32) (i_faultKind : Int32) (i_faultPlace : Int32) (i_got : Int32) (i_worked : Int32) (i_deliveries : Int32) (i_isPlanned : Int32) (i_bestDone : Int32) (i_bestCost : Int32) (sz9 : Nat) (pp : Nat) (nn : Nat) (fr : Nat) (k : Nat) (wc_ : Int32) (a_tape : Nat → Int32) (hx : p.tables.exec = Jvm.exec) (hb : c.code = cX12_keyAt) (hml : c.maxLocals = 8) (hown : s.vm.findClass RX12 = some m.cls) (hts : ∀ w ∈ wsX12_keyAt, w.before args s = true) (hkn : kn E s) (hst : st E A s s.heap) (hA : ∀ q : Nat, s.heap.size ≤ q → A q) (hpp : pp ≤ 800) (hnn : nn ≤ 800) (hsz : sz9 ≤ 800) (hk74 : k < 74) (hfr : fr ≤ k) (kk : ∀ (sm : Int32) (H : Heap) (locs : List Loc) (ls : Array Slot), va_P E.1 vwCl [(h0, .inr (12, mG q i_taped (nI sz9) i_sort i_what i_at i_end i_worth i_faultKind i_faultPlace i_got i_worked i_deliveries i_isPlanned i_bestDone i_bestCost)), (q 0, .inl (E.2.1 3, 800, .inl a_tape))] H → va_D A [(h0, .inr (12, mG q i_taped (nI sz9) i_sort i_what i_at i_end i_worth i_faultKind i_faultPlace i_got i_worked i_deliveries i_isPlanned i_bestDone i_bestCost)), (q 0, .inl (E.2.1 3, 800, .inl a_tape))] → va_S A s.heap H locs → lv_has ls 8 [(0, .ref h0), (1, .int (nI pp)), (2, .int (nI nn)), (3, .int wc_), (4, .int (nI fr)), (5, .int (nI k)), (6, .int sm)] → W p l e ({ frames := 4, cells := 0, slots := 0, locals := 85 }) s m args below meth c H locs 0 0 Q (F0 m 97 ls [])) : ∀ (n0 : Nat) (i : Nat) (sm : Int32) (H : Heap) (locs : List Loc) (ls : Array Slot), nn - i < n0 → (sm = 0 ∨ fr + nn = k) → (i ≤ nn) → va_P E.1 vwCl [(h0, .inr (12, mG q i_taped (nI sz9) i_sort i_what i_at i_end i_worth i_faultKind i_faultPlace i_got i_worked i_deliveries i_isPlanned i_bestDone i_bestCost)), (q 0, .inl (E.2.1 3, 800, .inl a_tape))] H → va_D A [(h0, .inr (12, mG q i_taped (nI sz9) i_sort i_what i_at i_end i_worth i_faultKind i_faultPlace i_got i_worked i_deliveries i_isPlanned i_bestDone i_bestCost)), (q 0, .inl (E.2.1 3, 800, .inl a_tape))] → va_S A s.heap H locs → lv_has ls 8 [(0, .ref h0), (1, .int (nI pp)), (2, .int (nI nn)), (3, .int wc_), (4, .int (nI fr)), (5, .int (nI k)), (6, .int sm), (7, .int (nI i))] → W p l e ({ frames := 4, cells := 0, slots := 0, locals := 85 }) s m args below meth c H locs 0 0 Q (F0 m 52 ls []) := by
  have hK := hkn.1
  have hAO := hkn.2.2.1
  intro n0
  induction n0 with
  | zero =>
    intro i sm H locs ls hn0
    exact absurd hn0 (Nat.not_lt_zero _)
  | succ n0 ih =>
    intro i sm H locs ls hn0 hsm hinn hP hD hS hl
    refine lv_iload hx hb dX12_keyAt_52 (lv_at hl 7 rfl) ?_
    refine lv_iload_n hx hb dX12_keyAt_54 rfl (lv_at hl 2 rfl) ?_
    refine lv_icmp_ge (tgt := 97) hx hb dX12_keyAt_55 (by decide) (fun c_1 => ?_) (fun c_1 => ?_)
    · exact kk sm _ _ _  (hP.sub [0, 1] rfl) (hD.sub [0, 1] (by decide) rfl) hS (lv_sub hl [0, 1, 2, 3, 4, 5, 6] rfl)
    · refine lv_iload hx hb dX12_keyAt_58 (lv_at hl 6 rfl) ?_
      refine lv_if_eq (tgt := 97) hx hb dX12_keyAt_60 (by decide) (fun c_2 => ?_) (fun c_2 => ?_)
      · exact kk sm _ _ _  (hP.sub [0, 1] rfl) (hD.sub [0, 1] (by decide) rfl) hS (lv_sub hl [0, 1, 2, 3, 4, 5, 6] rfl)
      · have hin_ : i < nn := lt_of_nle (by omega) c_1
        have hfn : fr + nn = k := hsm.resolve_left c_2
        refine va_ldcS hx hb hown (hkn.2.2.2 16 (by decide)) dX12_keyAt_63 ?_
        refine lv_iload hx hb dX12_keyAt_65 (lv_at hl 4 rfl) ?_
        refine lv_iload hx hb dX12_keyAt_67 (lv_at hl 7 rfl) ?_
        refine lv_iadd hx hb dX12_keyAt_69 ?_
        refine lv_topi (fun x_3 ex_3 => ?_)
        obtain rfl : x_3 = nI (fr + i) := ex_3.trans (nI_add fr i)
        have hPc := hP.sub (ws' := []) [] rfl
        have hDc := hD.sub (ws' := []) [] (by decide) rfl
        have hFc := va_free (wc := []) hD hS hA [] rfl
        refine va_calli (va_runV (As := [.int (nI (fr + i))]) (rest := []) ⟨hx, hb, hml, hown, hts⟩ (c_J0_charAt_5068e l E 16 (fr + i) H.size (by decide) (show _ < 74 from by omega)) (cwV 1 hts gX12_keyAt_J0_charAt_5068e rfl rfl rfl hdV_J0_charAt_5068e ⟨Nat.le_of_ble_eq_true rfl, Nat.le_of_ble_eq_true rfl⟩) ⟨pcW_blind, vk_recv hst.2.2.2.2 (by decide) hS, (pcW_pre hPc hkn hDc hst hS hFc)⟩ rfl rfl hl.1 rfl (lv_room (Nat.le_of_ble_eq_true rfl)) dX12_keyAt_70 ⟨Nat.le_of_ble_eq_true rfl, Nat.le_of_ble_eq_true rfl⟩) hS (fun q _ h => hFc q h) hFc (fun r_4 u t H1 locs ht hvm hw_5 hB hz1 hk1 hS => ?_)
        obtain ⟨hP1, hD1⟩ := hB
        rw [ht] at hP1
        try dsimp only at hw_5
        obtain ⟨hP, hD⟩ := va_join (wr := [(h0, .inr (12, mG q i_taped (nI sz9) i_sort i_what i_at i_end i_worth i_faultKind i_faultPlace i_got i_worked i_deliveries i_isPlanned i_bestDone i_bestCost)), (q 0, .inl (E.2.1 3, 800, .inl a_tape))]) (w1 := []) hP hD [] [0, 1] rfl rfl (by decide) (by decide) hk1 hFc hP1 hD1
        generalize H1 = H at hP hS ⊢
        have hP : va_P E.1 vwCl [(h0, .inr (12, mG q i_taped (nI sz9) i_sort i_what i_at i_end i_worth i_faultKind i_faultPlace i_got i_worked i_deliveries i_isPlanned i_bestDone i_bestCost)), (q 0, .inl (E.2.1 3, 800, .inl a_tape))] H := hP
        have hD : va_D A [(h0, .inr (12, mG q i_taped (nI sz9) i_sort i_what i_at i_end i_worth i_faultKind i_faultPlace i_got i_worked i_deliveries i_isPlanned i_bestDone i_bestCost)), (q 0, .inl (E.2.1 3, 800, .inl a_tape))] := hD
        refine lv_aload_n hx hb dX12_keyAt_73 rfl (lv_at hl 0 rfl) ?_
        refine lv_iload_n hx hb dX12_keyAt_74 rfl (lv_at hl 1 rfl) ?_
        refine lv_iload hx hb dX12_keyAt_75 (lv_at hl 7 rfl) ?_
        refine lv_iadd hx hb dX12_keyAt_77 ?_
        refine lv_topi (fun x_6 ex_6 => ?_)
        obtain rfl : x_6 = nI (pp + i) := ex_6.trans (nI_add pp i)
        have hPc := hP.sub (ws' := [(h0, .inr (12, mG q i_taped (nI sz9) i_sort i_what i_at i_end i_worth i_faultKind i_faultPlace i_got i_worked i_deliveries i_isPlanned i_bestDone i_bestCost)), (q 0, .inl (E.2.1 3, 800, .inl a_tape))]) [0, 1] rfl
        have hDc := hD.sub (ws' := [(h0, .inr (12, mG q i_taped (nI sz9) i_sort i_what i_at i_end i_worth i_faultKind i_faultPlace i_got i_worked i_deliveries i_isPlanned i_bestDone i_bestCost)), (q 0, .inl (E.2.1 3, 800, .inl a_tape))]) [0, 1] (by decide) rfl
        have hFc := va_free (wc := [(h0, .inr (12, mG q i_taped (nI sz9) i_sort i_what i_at i_end i_worth i_faultKind i_faultPlace i_got i_worked i_deliveries i_isPlanned i_bestDone i_bestCost)), (q 0, .inl (E.2.1 3, 800, .inl a_tape))]) hD hS hA [0, 1] rfl
        refine va_calli (va_runV (As := [.int (nI (pp + i))]) (rest := [.int r_4]) ⟨hx, hb, hml, hown, hts⟩ (c_X12_see l E h0 q i_taped i_sort i_what i_at i_end i_worth i_faultKind i_faultPlace i_got i_worked i_deliveries i_isPlanned i_bestDone i_bestCost sz9 (pp + i) a_tape H.size (by omega) (by omega)) (cwV 1 hts gX12_keyAt_X12_see rfl rfl rfl hdV_X12_see ⟨Nat.le_of_ble_eq_true rfl, Nat.le_of_ble_eq_true rfl⟩) ⟨pcW_blind, va_recv hK hPc (ci := 12) (q0 := 0) rfl rfl, (pcW_pre hPc hkn hDc hst hS hFc)⟩ rfl rfl hl.1 rfl (lv_room (Nat.le_of_ble_eq_true rfl)) dX12_keyAt_78 ⟨Nat.le_of_ble_eq_true rfl, Nat.le_of_ble_eq_true rfl⟩) hS (fun q _ h => hFc q h) hFc (fun r_7 u t H1 locs ht hvm hw_8 hB hz1 hk1 hS => ?_)
        obtain ⟨hP1, hD1⟩ := hB
        rw [ht] at hP1
        try dsimp only at hw_8
        obtain ⟨hP, hD⟩ := va_join (wr := []) (w1 := [(h0, .inr (12, mG q i_taped (nI sz9) i_sort i_what i_at i_end i_worth i_faultKind i_faultPlace i_got i_worked i_deliveries i_isPlanned i_bestDone i_bestCost)), (q 0, .inl (E.2.1 3, 800, .inl a_tape))]) hP hD [0, 1] [] rfl rfl (by decide) (by decide) hk1 hFc hP1 hD1
        generalize H1 = H at hP hS ⊢
        have hP : va_P E.1 vwCl [(h0, .inr (12, mG q i_taped (nI sz9) i_sort i_what i_at i_end i_worth i_faultKind i_faultPlace i_got i_worked i_deliveries i_isPlanned i_bestDone i_bestCost)), (q 0, .inl (E.2.1 3, 800, .inl a_tape))] H := hP
        have hD : va_D A [(h0, .inr (12, mG q i_taped (nI sz9) i_sort i_what i_at i_end i_worth i_faultKind i_faultPlace i_got i_worked i_deliveries i_isPlanned i_bestDone i_bestCost)), (q 0, .inl (E.2.1 3, 800, .inl a_tape))] := hD
        refine lv_icmp_ne (tgt := 88) hx hb dX12_keyAt_81 (by decide) (fun c_9 => ?_) (fun c_9 => ?_)
        · refine lv_iconst (v := 0) hx hb dX12_keyAt_88 (by decide) ?_
          refine lv_istore (lv' := [(6, .int 0), (0, .ref h0), (1, .int (nI pp)), (2, .int (nI nn)), (3, .int wc_), (4, .int (nI fr)), (5, .int (nI k)), (7, .int (nI i))]) hx hb dX12_keyAt_89 hl (by decide) rfl (fun ls hl => ?_)
          refine lv_iinc (v := (nI (i + 1))) (lv' := [(7, .int (nI (i + 1))), (6, .int 0), (0, .ref h0), (1, .int (nI pp)), (2, .int (nI nn)), (3, .int wc_), (4, .int (nI fr)), (5, .int (nI k))]) hx hb dX12_keyAt_91 hl (k := 7) rfl (show nI i + 1 = nI (i + 1) from nI_1 i) (by decide) rfl (fun ls hl => ?_)
          refine lv_goto (tgt := 52) hx hb dX12_keyAt_94 (by decide) ?_
          exact ih (i + 1) 0 _ _ _ (by omega) (Or.inl rfl) (by omega) (hP.sub [0, 1] rfl) (hD.sub [0, 1] (by decide) rfl) hS (lv_sub hl [2, 3, 4, 5, 6, 7, 1, 0] rfl)
        · refine lv_iconst (v := 1) hx hb dX12_keyAt_84 (by decide) ?_
          refine lv_goto (tgt := 89) hx hb dX12_keyAt_85 (by decide) ?_
          refine lv_istore (lv' := [(6, .int 1), (0, .ref h0), (1, .int (nI pp)), (2, .int (nI nn)), (3, .int wc_), (4, .int (nI fr)), (5, .int (nI k)), (7, .int (nI i))]) hx hb dX12_keyAt_89 hl (by decide) rfl (fun ls hl => ?_)
          refine lv_iinc (v := (nI (i + 1))) (lv' := [(7, .int (nI (i + 1))), (6, .int 1), (0, .ref h0), (1, .int (nI pp)), (2, .int (nI nn)), (3, .int wc_), (4, .int (nI fr)), (5, .int (nI k))]) hx hb dX12_keyAt_91 hl (k := 7) rfl (show nI i + 1 = nI (i + 1) from nI_1 i) (by decide) rfl (fun ls hl => ?_)
          refine lv_goto (tgt := 52) hx hb dX12_keyAt_94 (by decide) ?_
          exact ih (i + 1) 1 _ _ _ (by omega) (Or.inr hfn) (by omega) (hP.sub [0, 1] rfl) (hD.sub [0, 1] (by decide) rfl) hS (lv_sub hl [2, 3, 4, 5, 6, 7, 1, 0] rfl)
set_option maxHeartbeats 4000000 in
set_option maxRecDepth 100000 in
theorem lm_key1 {p : Program} {l : Launch} {e : Env} {s : State} {m : MethodId} {args : Array Value} {below : List Frame} {meth : Method} {c : Code} {Q : State → Prop} {A : Nat → Prop} (E : vE) (h0 : Nat) (q : Nat → Nat) (i_taped : Int32) (i_sort : Int32) (i_what : Int32) (i_at : Int32) (i_end : Int32) (i_worth : Int32) (i_faultKind : Int32) (i_faultPlace : Int32) (i_got : Int32) (i_worked : Int32) (i_deliveries : Int32) (i_isPlanned : Int32) (i_bestDone : Int32) (i_bestCost : Int32) (sz9 : Nat) (pp : Nat) (nn : Nat) (a_tape : Nat → Int32) (hx : p.tables.exec = Jvm.exec) (hb : c.code = cX12_keyAt) (hml : c.maxLocals = 8) (hown : s.vm.findClass RX12 = some m.cls) (hts : ∀ w ∈ wsX12_keyAt, w.before args s = true) (hkn : kn E s) (hst : st E A s s.heap) (hA : ∀ q : Nat, s.heap.size ≤ q → A q) (hpp : pp ≤ 800) (hnn : nn ≤ 800) (hsz : sz9 ≤ 800) (kk : ∀ (H : Heap) (locs : List Loc) (ls : Array Slot), va_P E.1 vwCl [(h0, .inr (12, mG q i_taped (nI sz9) i_sort i_what i_at i_end i_worth i_faultKind i_faultPlace i_got i_worked i_deliveries i_isPlanned i_bestDone i_bestCost)), (q 0, .inl (E.2.1 3, 800, .inl a_tape))] H → va_D A [(h0, .inr (12, mG q i_taped (nI sz9) i_sort i_what i_at i_end i_worth i_faultKind i_faultPlace i_got i_worked i_deliveries i_isPlanned i_bestDone i_bestCost)), (q 0, .inl (E.2.1 3, 800, .inl a_tape))] → va_S A s.heap H locs → lv_has ls 8 [(0, .ref h0)] → W p l e ({ frames := 4, cells := 0, slots := 0, locals := 85 }) s m args below meth c H locs 0 0 Q (F0 m 119 ls [])) (kk2 : ∀ (wc_ : Int32) (H : Heap) (locs : List Loc) (ls : Array Slot), va_P E.1 vwCl [(h0, .inr (12, mG q i_taped (nI sz9) i_sort i_what i_at i_end i_worth i_faultKind i_faultPlace i_got i_worked i_deliveries i_isPlanned i_bestDone i_bestCost)), (q 0, .inl (E.2.1 3, 800, .inl a_tape))] H → va_D A [(h0, .inr (12, mG q i_taped (nI sz9) i_sort i_what i_at i_end i_worth i_faultKind i_faultPlace i_got i_worked i_deliveries i_isPlanned i_bestDone i_bestCost)), (q 0, .inl (E.2.1 3, 800, .inl a_tape))] → va_S A s.heap H locs → lv_has ls 8 [(0, .ref h0), (3, .int wc_)] → W p l e ({ frames := 4, cells := 0, slots := 0, locals := 85 }) s m args below meth c H locs 0 0 Q (F0 m 102 ls [])) : ∀ (n0 : Nat) (k : Nat) (fr : Nat) (wc_ : Int32) (H : Heap) (locs : List Loc) (ls : Array Slot), 74 - k < n0 → (k ≤ 74) → (fr ≤ k) → va_P E.1 vwCl [(h0, .inr (12, mG q i_taped (nI sz9) i_sort i_what i_at i_end i_worth i_faultKind i_faultPlace i_got i_worked i_deliveries i_isPlanned i_bestDone i_bestCost)), (q 0, .inl (E.2.1 3, 800, .inl a_tape))] H → va_D A [(h0, .inr (12, mG q i_taped (nI sz9) i_sort i_what i_at i_end i_worth i_faultKind i_faultPlace i_got i_worked i_deliveries i_isPlanned i_bestDone i_bestCost)), (q 0, .inl (E.2.1 3, 800, .inl a_tape))] → va_S A s.heap H locs → lv_has ls 8 [(0, .ref h0), (1, .int (nI pp)), (2, .int (nI nn)), (3, .int wc_), (4, .int (nI fr)), (5, .int (nI k))] → W p l e ({ frames := 4, cells := 0, slots := 0, locals := 85 }) s m args below meth c H locs 0 0 Q (F0 m 8 ls []) := by
  have hK := hkn.1
  have hAO := hkn.2.2.1
  intro n0
  induction n0 with
  | zero =>
    intro k fr wc_ H locs ls hn0
    exact absurd hn0 (Nat.not_lt_zero _)
  | succ n0 ih =>
    intro k fr wc_ H locs ls hn0 hk hfr hP hD hS hl
    refine lv_iload hx hb dX12_keyAt_8 (lv_at hl 5 rfl) ?_
    refine va_ldcS hx hb hown (hkn.2.2.2 16 (by decide)) dX12_keyAt_10 ?_
    have hPc := hP.sub (ws' := []) [] rfl
    have hDc := hD.sub (ws' := []) [] (by decide) rfl
    have hFc := va_free (wc := []) hD hS hA [] rfl
    refine va_calli (va_runV (As := []) (rest := [.int (nI k)]) ⟨hx, hb, hml, hown, hts⟩ (c_J0_length_8abf5 l E 16 H.size (by decide)) (cwV 0 hts gX12_keyAt_J0_length_8abf5 rfl rfl rfl hdV_J0_length_8abf5 ⟨Nat.le_of_ble_eq_true rfl, Nat.le_of_ble_eq_true rfl⟩) ⟨pcW_blind, vk_recv hst.2.2.2.2 (by decide) hS, (pcW_pre hPc hkn hDc hst hS hFc)⟩ rfl rfl hl.1 rfl (lv_room (Nat.le_of_ble_eq_true rfl)) dX12_keyAt_12 ⟨Nat.le_of_ble_eq_true rfl, Nat.le_of_ble_eq_true rfl⟩) hS (fun q _ h => hFc q h) hFc (fun r_1 u t H1 locs ht hvm hw_2 hB hz1 hk1 hS => ?_)
    obtain ⟨hP1, hD1⟩ := hB
    rw [ht] at hP1
    try dsimp only at hw_2
    obtain ⟨hP, hD⟩ := va_join (wr := [(h0, .inr (12, mG q i_taped (nI sz9) i_sort i_what i_at i_end i_worth i_faultKind i_faultPlace i_got i_worked i_deliveries i_isPlanned i_bestDone i_bestCost)), (q 0, .inl (E.2.1 3, 800, .inl a_tape))]) (w1 := []) hP hD [] [0, 1] rfl rfl (by decide) (by decide) hk1 hFc hP1 hD1
    generalize H1 = H at hP hS ⊢
    have hP : va_P E.1 vwCl [(h0, .inr (12, mG q i_taped (nI sz9) i_sort i_what i_at i_end i_worth i_faultKind i_faultPlace i_got i_worked i_deliveries i_isPlanned i_bestDone i_bestCost)), (q 0, .inl (E.2.1 3, 800, .inl a_tape))] H := hP
    have hD : va_D A [(h0, .inr (12, mG q i_taped (nI sz9) i_sort i_what i_at i_end i_worth i_faultKind i_faultPlace i_got i_worked i_deliveries i_isPlanned i_bestDone i_bestCost)), (q 0, .inl (E.2.1 3, 800, .inl a_tape))] := hD
    obtain rfl : r_1 = 74 := hw_2.trans (by decide +kernel)
    refine lv_icmp_ge (tgt := 119) hx hb dX12_keyAt_15 (by decide) (fun c_3 => ?_) (fun c_3 => ?_)
    · exact kk  _ _ _  (hP.sub [0, 1] rfl) (hD.sub [0, 1] (by decide) rfl) hS (lv_sub hl [0] rfl)
    · have hk74 : k < 74 := lt_of_nle (a := 74) (by omega) c_3
      refine va_ldcS hx hb hown (hkn.2.2.2 16 (by decide)) dX12_keyAt_18 ?_
      refine lv_iload hx hb dX12_keyAt_20 (lv_at hl 5 rfl) ?_
      have hPc := hP.sub (ws' := []) [] rfl
      have hDc := hD.sub (ws' := []) [] (by decide) rfl
      have hFc := va_free (wc := []) hD hS hA [] rfl
      refine va_calli (va_runV (As := [.int (nI k)]) (rest := []) ⟨hx, hb, hml, hown, hts⟩ (c_J0_charAt_5068e l E 16 k H.size (by decide) (show _ < 74 from by omega)) (cwV 1 hts gX12_keyAt_J0_charAt_5068e rfl rfl rfl hdV_J0_charAt_5068e ⟨Nat.le_of_ble_eq_true rfl, Nat.le_of_ble_eq_true rfl⟩) ⟨pcW_blind, vk_recv hst.2.2.2.2 (by decide) hS, (pcW_pre hPc hkn hDc hst hS hFc)⟩ rfl rfl hl.1 rfl (lv_room (Nat.le_of_ble_eq_true rfl)) dX12_keyAt_22 ⟨Nat.le_of_ble_eq_true rfl, Nat.le_of_ble_eq_true rfl⟩) hS (fun q _ h => hFc q h) hFc (fun r_4 u t H1 locs ht hvm hw_5 hB hz1 hk1 hS => ?_)
      obtain ⟨hP1, hD1⟩ := hB
      rw [ht] at hP1
      try dsimp only at hw_5
      obtain ⟨hP, hD⟩ := va_join (wr := [(h0, .inr (12, mG q i_taped (nI sz9) i_sort i_what i_at i_end i_worth i_faultKind i_faultPlace i_got i_worked i_deliveries i_isPlanned i_bestDone i_bestCost)), (q 0, .inl (E.2.1 3, 800, .inl a_tape))]) (w1 := []) hP hD [] [0, 1] rfl rfl (by decide) (by decide) hk1 hFc hP1 hD1
      generalize H1 = H at hP hS ⊢
      have hP : va_P E.1 vwCl [(h0, .inr (12, mG q i_taped (nI sz9) i_sort i_what i_at i_end i_worth i_faultKind i_faultPlace i_got i_worked i_deliveries i_isPlanned i_bestDone i_bestCost)), (q 0, .inl (E.2.1 3, 800, .inl a_tape))] H := hP
      have hD : va_D A [(h0, .inr (12, mG q i_taped (nI sz9) i_sort i_what i_at i_end i_worth i_faultKind i_faultPlace i_got i_worked i_deliveries i_isPlanned i_bestDone i_bestCost)), (q 0, .inl (E.2.1 3, 800, .inl a_tape))] := hD
      refine lv_bipush (v := 32) hx hb dX12_keyAt_25 (by decide) ?_
      refine lv_icmp_eq (tgt := 33) hx hb dX12_keyAt_27 (by decide) (fun c_6 => ?_) (fun c_6 => ?_)
      · refine lv_iload hx hb dX12_keyAt_33 (lv_at hl 5 rfl) ?_
        refine lv_iload hx hb dX12_keyAt_35 (lv_at hl 4 rfl) ?_
        refine lv_isub hx hb dX12_keyAt_37 ?_
        refine lv_topi (fun x_7 ex_7 => ?_)
        obtain rfl : x_7 = nI (k - fr) := ex_7.trans (pk_sub (a := k) (b := fr) (by omega))
        refine lv_iload_n hx hb dX12_keyAt_38 rfl (lv_at hl 2 rfl) ?_
        refine lv_icmp_ne (tgt := 46) hx hb dX12_keyAt_39 (by decide) (fun c_8 => ?_) (fun c_8 => ?_)
        · refine lv_iconst (v := 0) hx hb dX12_keyAt_46 (by decide) ?_
          refine lv_istore (lv' := [(6, .int 0), (0, .ref h0), (1, .int (nI pp)), (2, .int (nI nn)), (3, .int wc_), (4, .int (nI fr)), (5, .int (nI k))]) hx hb dX12_keyAt_47 hl (by decide) rfl (fun ls hl => ?_)
          refine lv_iconst (v := 0) hx hb dX12_keyAt_49 (by decide) ?_
          refine lv_istore (lv' := [(7, .int 0), (6, .int 0), (0, .ref h0), (1, .int (nI pp)), (2, .int (nI nn)), (3, .int wc_), (4, .int (nI fr)), (5, .int (nI k))]) hx hb dX12_keyAt_50 hl (by decide) rfl (fun ls hl => ?_)
          have hPl := hP.sub (ws' := [(h0, .inr (12, mG q i_taped (nI sz9) i_sort i_what i_at i_end i_worth i_faultKind i_faultPlace i_got i_worked i_deliveries i_isPlanned i_bestDone i_bestCost)), (q 0, .inl (E.2.1 3, 800, .inl a_tape))]) [0, 1] rfl
          have hDl := hD.sub (ws' := [(h0, .inr (12, mG q i_taped (nI sz9) i_sort i_what i_at i_end i_worth i_faultKind i_faultPlace i_got i_worked i_deliveries i_isPlanned i_bestDone i_bestCost)), (q 0, .inl (E.2.1 3, 800, .inl a_tape))]) [0, 1] (by decide) rfl
          refine lm_key2 E h0 q i_taped i_sort i_what i_at i_end i_worth i_faultKind i_faultPlace i_got i_worked i_deliveries i_isPlanned i_bestDone i_bestCost sz9 pp nn fr k wc_ a_tape hx hb hml hown hts hkn hst hA (by omega) (by omega) (by omega) (by omega) (by omega) (fun n_9 H locs ls  hP hD hS hl => ?_) (nn + 1) 0 0 _ _ _ (by omega) (Or.inl rfl) (by omega) hPl hDl hS (lv_sub hl [2, 3, 4, 5, 6, 7, 1, 0] rfl)
          have hP : va_P E.1 vwCl [(h0, .inr (12, mG q i_taped (nI sz9) i_sort i_what i_at i_end i_worth i_faultKind i_faultPlace i_got i_worked i_deliveries i_isPlanned i_bestDone i_bestCost)), (q 0, .inl (E.2.1 3, 800, .inl a_tape))] H := hP
          have hD : va_D A [(h0, .inr (12, mG q i_taped (nI sz9) i_sort i_what i_at i_end i_worth i_faultKind i_faultPlace i_got i_worked i_deliveries i_isPlanned i_bestDone i_bestCost)), (q 0, .inl (E.2.1 3, 800, .inl a_tape))] := hD
          refine lv_iload hx hb dX12_keyAt_97 (lv_at hl 6 rfl) ?_
          refine lv_if_eq (tgt := 104) hx hb dX12_keyAt_99 (by decide) (fun c_10 => ?_) (fun c_10 => ?_)
          · obtain ⟨x_11, ex_11⟩ : ∃ y : Int32, y = wc_ + 1 := ⟨_, rfl⟩
            refine lv_iinc (v := x_11) (lv' := [(3, .int x_11), (0, .ref h0), (1, .int (nI pp)), (2, .int (nI nn)), (4, .int (nI fr)), (5, .int (nI k)), (6, .int n_9)]) hx hb dX12_keyAt_104 hl (k := 3) rfl (by rw [ex_11]; rfl) (by decide) rfl (fun ls hl => ?_)
            refine lv_iload hx hb dX12_keyAt_107 (lv_at hl 5 rfl) ?_
            refine lv_iconst (v := 1) hx hb dX12_keyAt_109 (by decide) ?_
            refine lv_iadd hx hb dX12_keyAt_110 ?_
            refine lv_topi (fun x_12 ex_12 => ?_)
            obtain rfl : x_12 = nI (k + 1) := ex_12.trans (nI_1 _)
            refine lv_istore (lv' := [(4, .int (nI (k + 1))), (3, .int x_11), (0, .ref h0), (1, .int (nI pp)), (2, .int (nI nn)), (5, .int (nI k)), (6, .int n_9)]) hx hb dX12_keyAt_111 hl (by decide) rfl (fun ls hl => ?_)
            refine lv_iinc (v := (nI (k + 1))) (lv' := [(5, .int (nI (k + 1))), (4, .int (nI (k + 1))), (3, .int x_11), (0, .ref h0), (1, .int (nI pp)), (2, .int (nI nn)), (6, .int n_9)]) hx hb dX12_keyAt_113 hl (k := 5) rfl (show nI k + 1 = nI (k + 1) from nI_1 k) (by decide) rfl (fun ls hl => ?_)
            refine lv_goto (tgt := 8) hx hb dX12_keyAt_116 (by decide) ?_
            exact ih (k + 1) (k + 1) x_11 _ _ _ (by omega) (by omega) (by omega) (hP.sub [0, 1] rfl) (hD.sub [0, 1] (by decide) rfl) hS (lv_sub hl [3, 4, 5, 2, 1, 0] rfl)
          · exact kk2 wc_ _ _ _  (hP.sub [0, 1] rfl) (hD.sub [0, 1] (by decide) rfl) hS (lv_sub hl [0, 3] rfl)
        · refine lv_iconst (v := 1) hx hb dX12_keyAt_42 (by decide) ?_
          refine lv_goto (tgt := 47) hx hb dX12_keyAt_43 (by decide) ?_
          refine lv_istore (lv' := [(6, .int 1), (0, .ref h0), (1, .int (nI pp)), (2, .int (nI nn)), (3, .int wc_), (4, .int (nI fr)), (5, .int (nI k))]) hx hb dX12_keyAt_47 hl (by decide) rfl (fun ls hl => ?_)
          refine lv_iconst (v := 0) hx hb dX12_keyAt_49 (by decide) ?_
          refine lv_istore (lv' := [(7, .int 0), (6, .int 1), (0, .ref h0), (1, .int (nI pp)), (2, .int (nI nn)), (3, .int wc_), (4, .int (nI fr)), (5, .int (nI k))]) hx hb dX12_keyAt_50 hl (by decide) rfl (fun ls hl => ?_)
          have hPl := hP.sub (ws' := [(h0, .inr (12, mG q i_taped (nI sz9) i_sort i_what i_at i_end i_worth i_faultKind i_faultPlace i_got i_worked i_deliveries i_isPlanned i_bestDone i_bestCost)), (q 0, .inl (E.2.1 3, 800, .inl a_tape))]) [0, 1] rfl
          have hDl := hD.sub (ws' := [(h0, .inr (12, mG q i_taped (nI sz9) i_sort i_what i_at i_end i_worth i_faultKind i_faultPlace i_got i_worked i_deliveries i_isPlanned i_bestDone i_bestCost)), (q 0, .inl (E.2.1 3, 800, .inl a_tape))]) [0, 1] (by decide) rfl
          refine lm_key2 E h0 q i_taped i_sort i_what i_at i_end i_worth i_faultKind i_faultPlace i_got i_worked i_deliveries i_isPlanned i_bestDone i_bestCost sz9 pp nn fr k wc_ a_tape hx hb hml hown hts hkn hst hA (by omega) (by omega) (by omega) (by omega) (by omega) (fun n_13 H locs ls  hP hD hS hl => ?_) (nn + 1) 0 1 _ _ _ (by omega) (Or.inr (by have := (nI_eq (by omega) (by omega)).mp c_8; omega)) (by omega) hPl hDl hS (lv_sub hl [2, 3, 4, 5, 6, 7, 1, 0] rfl)
          have hP : va_P E.1 vwCl [(h0, .inr (12, mG q i_taped (nI sz9) i_sort i_what i_at i_end i_worth i_faultKind i_faultPlace i_got i_worked i_deliveries i_isPlanned i_bestDone i_bestCost)), (q 0, .inl (E.2.1 3, 800, .inl a_tape))] H := hP
          have hD : va_D A [(h0, .inr (12, mG q i_taped (nI sz9) i_sort i_what i_at i_end i_worth i_faultKind i_faultPlace i_got i_worked i_deliveries i_isPlanned i_bestDone i_bestCost)), (q 0, .inl (E.2.1 3, 800, .inl a_tape))] := hD
          refine lv_iload hx hb dX12_keyAt_97 (lv_at hl 6 rfl) ?_
          refine lv_if_eq (tgt := 104) hx hb dX12_keyAt_99 (by decide) (fun c_14 => ?_) (fun c_14 => ?_)
          · obtain ⟨x_15, ex_15⟩ : ∃ y : Int32, y = wc_ + 1 := ⟨_, rfl⟩
            refine lv_iinc (v := x_15) (lv' := [(3, .int x_15), (0, .ref h0), (1, .int (nI pp)), (2, .int (nI nn)), (4, .int (nI fr)), (5, .int (nI k)), (6, .int n_13)]) hx hb dX12_keyAt_104 hl (k := 3) rfl (by rw [ex_15]; rfl) (by decide) rfl (fun ls hl => ?_)
            refine lv_iload hx hb dX12_keyAt_107 (lv_at hl 5 rfl) ?_
            refine lv_iconst (v := 1) hx hb dX12_keyAt_109 (by decide) ?_
            refine lv_iadd hx hb dX12_keyAt_110 ?_
            refine lv_topi (fun x_16 ex_16 => ?_)
            obtain rfl : x_16 = nI (k + 1) := ex_16.trans (nI_1 _)
            refine lv_istore (lv' := [(4, .int (nI (k + 1))), (3, .int x_15), (0, .ref h0), (1, .int (nI pp)), (2, .int (nI nn)), (5, .int (nI k)), (6, .int n_13)]) hx hb dX12_keyAt_111 hl (by decide) rfl (fun ls hl => ?_)
            refine lv_iinc (v := (nI (k + 1))) (lv' := [(5, .int (nI (k + 1))), (4, .int (nI (k + 1))), (3, .int x_15), (0, .ref h0), (1, .int (nI pp)), (2, .int (nI nn)), (6, .int n_13)]) hx hb dX12_keyAt_113 hl (k := 5) rfl (show nI k + 1 = nI (k + 1) from nI_1 k) (by decide) rfl (fun ls hl => ?_)
            refine lv_goto (tgt := 8) hx hb dX12_keyAt_116 (by decide) ?_
            exact ih (k + 1) (k + 1) x_15 _ _ _ (by omega) (by omega) (by omega) (hP.sub [0, 1] rfl) (hD.sub [0, 1] (by decide) rfl) hS (lv_sub hl [3, 4, 5, 2, 1, 0] rfl)
          · exact kk2 wc_ _ _ _  (hP.sub [0, 1] rfl) (hD.sub [0, 1] (by decide) rfl) hS (lv_sub hl [0, 3] rfl)
      · refine lv_goto (tgt := 113) hx hb dX12_keyAt_30 (by decide) ?_
        refine lv_iinc (v := (nI (k + 1))) (lv' := [(5, .int (nI (k + 1))), (0, .ref h0), (1, .int (nI pp)), (2, .int (nI nn)), (3, .int wc_), (4, .int (nI fr))]) hx hb dX12_keyAt_113 hl (k := 5) rfl (show nI k + 1 = nI (k + 1) from nI_1 k) (by decide) rfl (fun ls hl => ?_)
        refine lv_goto (tgt := 8) hx hb dX12_keyAt_116 (by decide) ?_
        exact ih (k + 1) fr wc_ _ _ _ (by omega) (by omega) (by omega) (hP.sub [0, 1] rfl) (hD.sub [0, 1] (by decide) rfl) hS (lv_sub hl [1, 2, 3, 4, 5, 0] rfl)
set_option maxHeartbeats 4000000 in
set_option maxRecDepth 100000 in
theorem c_X12_keyAt (l : Launch) (E : vE) (h0 : Nat) (q : Nat → Nat) (i_taped : Int32) (i_sort : Int32) (i_what : Int32) (i_at : Int32) (i_end : Int32) (i_worth : Int32) (i_faultKind : Int32) (i_faultPlace : Int32) (i_got : Int32) (i_worked : Int32) (i_deliveries : Int32) (i_isPlanned : Int32) (i_bestDone : Int32) (i_bestCost : Int32) (sz9 : Nat) (pp : Nat) (nn : Nat) (a_tape : Nat → Int32) (sz : Nat) (hpp : pp ≤ 800) (hnn : nn ≤ 800) (hsz : sz9 ≤ 800) : Met l yX12_keyAt wsX12_keyAt ({ frames := 4, cells := 0, slots := 0, locals := 85 }) (pcW E [.ref h0, .int (nI pp), .int (nI nn)] sz [(h0, .inr (12, mG q i_taped (nI sz9) i_sort i_what i_at i_end i_worth i_faultKind i_faultPlace i_got i_worked i_deliveries i_isPlanned i_bestDone i_bestCost)), (q 0, .inl (E.2.1 3, 800, .inl a_tape))]) (va_Qi (fun (r : Int32) (_ : Unit) => True) (fun (_ : Unit) (t : State) => wB E (va_A [(h0, .inr (12, mG q i_taped (nI sz9) i_sort i_what i_at i_end i_worth i_faultKind i_faultPlace i_got i_worked i_deliveries i_isPlanned i_bestDone i_bestCost)), (q 0, .inl (E.2.1 3, 800, .inl a_tape))] sz) [(h0, .inr (12, mG q i_taped (nI sz9) i_sort i_what i_at i_end i_worth i_faultKind i_faultPlace i_got i_worked i_deliveries i_isPlanned i_bestDone i_bestCost)), (q 0, .inl (E.2.1 3, 800, .inl a_tape))] t) (va_A [(h0, .inr (12, mG q i_taped (nI sz9) i_sort i_what i_at i_end i_worth i_faultKind i_faultPlace i_got i_worked i_deliveries i_isPlanned i_bestDone i_bestCost)), (q 0, .inl (E.2.1 3, 800, .inl a_tape))] sz)) 0 0 (va_A [(h0, .inr (12, mG q i_taped (nI sz9) i_sort i_what i_at i_end i_worth i_faultKind i_faultPlace i_got i_worked i_deliveries i_isPlanned i_bestDone i_bestCost)), (q 0, .inl (E.2.1 3, 800, .inl a_tape))] sz) := by
  refine Met.ofW (cc := cX12_keyAt) (maxL := 8) (ret := (some .int)) (by decide) rfl ?_
  intro p e s m args below meth c s₁ B hml hv
  obtain ⟨rfl, hsz, hP, hkn, hD0, hst⟩ := hv
  have hx := B.exec
  have hb := B.bytes
  have hr := B.returns
  have hts := atoms_spec (ws := wsX12_keyAt) B.pre
  have hown : s.vm.findClass RX12 = some m.cls := findClass_of_methodNamed B.named
  have hlocks := B.notSynchronized
  subst hsz
  have hD := hD0.self (sz := s.heap.size)
  have hK := hkn.1
  have hAO := hkn.2.2.1
  generalize hAe : va_A [(h0, .inr (12, mG q i_taped (nI sz9) i_sort i_what i_at i_end i_worth i_faultKind i_faultPlace i_got i_worked i_deliveries i_isPlanned i_bestDone i_bestCost)), (q 0, .inl (E.2.1 3, 800, .inl a_tape))] s.heap.size = A at hD hst ⊢
  have hA : ∀ q : Nat, s.heap.size ≤ q → A q := fun q h => by rw [← hAe]; exact Or.inr h
  have hS : va_S A s.heap s.heap [] := va_S.rf
  have hP : va_P E.1 vwCl [(h0, .inr (12, mG q i_taped (nI sz9) i_sort i_what i_at i_end i_worth i_faultKind i_faultPlace i_got i_worked i_deliveries i_isPlanned i_bestDone i_bestCost)), (q 0, .inl (E.2.1 3, 800, .inl a_tape))] s.heap := hP
  have hl := lv_entry ([.ref h0, .int (nI pp), .int (nI nn)]) (n := 8) (Nat.le_of_ble_eq_true rfl)
  rw [lg_entry_eq]
  generalize (lg_sl ([.ref h0, .int (nI pp), .int (nI nn)]) ++ List.replicate (8 - (lg_sl ([.ref h0, .int (nI pp), .int (nI nn)])).length) Slot.unset).toArray = ls at hl ⊢
  have hl : lv_has ls 8 [(0, .ref h0), (1, .int (nI pp)), (2, .int (nI nn))] := hl
  refine lv_iconst (v := 0) hx hb dX12_keyAt_0 (by decide) ?_
  refine lv_istore_n (lv' := [(3, .int 0), (0, .ref h0), (1, .int (nI pp)), (2, .int (nI nn))]) hx hb dX12_keyAt_1 rfl hl (by decide) rfl (fun ls hl => ?_)
  refine lv_iconst (v := 0) hx hb dX12_keyAt_2 (by decide) ?_
  refine lv_istore (lv' := [(4, .int 0), (3, .int 0), (0, .ref h0), (1, .int (nI pp)), (2, .int (nI nn))]) hx hb dX12_keyAt_3 hl (by decide) rfl (fun ls hl => ?_)
  refine lv_iconst (v := 0) hx hb dX12_keyAt_5 (by decide) ?_
  refine lv_istore (lv' := [(5, .int 0), (4, .int 0), (3, .int 0), (0, .ref h0), (1, .int (nI pp)), (2, .int (nI nn))]) hx hb dX12_keyAt_6 hl (by decide) rfl (fun ls hl => ?_)
  have hPl := hP.sub (ws' := [(h0, .inr (12, mG q i_taped (nI sz9) i_sort i_what i_at i_end i_worth i_faultKind i_faultPlace i_got i_worked i_deliveries i_isPlanned i_bestDone i_bestCost)), (q 0, .inl (E.2.1 3, 800, .inl a_tape))]) [0, 1] rfl
  have hDl := hD.sub (ws' := [(h0, .inr (12, mG q i_taped (nI sz9) i_sort i_what i_at i_end i_worth i_faultKind i_faultPlace i_got i_worked i_deliveries i_isPlanned i_bestDone i_bestCost)), (q 0, .inl (E.2.1 3, 800, .inl a_tape))]) [0, 1] (by decide) rfl
  refine lm_key1 E h0 q i_taped i_sort i_what i_at i_end i_worth i_faultKind i_faultPlace i_got i_worked i_deliveries i_isPlanned i_bestDone i_bestCost sz9 pp nn a_tape hx hb hml hown hts hkn hst hA (by omega) (by omega) (by omega) (fun  H locs ls  hP hD hS hl => ?_) (fun w_1 H locs ls  hP hD hS hl => ?_) 75 0 0 0 _ _ _ (by omega) (by omega) (by omega) hPl hDl hS (lv_sub hl [3, 4, 5, 2, 1, 0] rfl)
  · have hP : va_P E.1 vwCl [(h0, .inr (12, mG q i_taped (nI sz9) i_sort i_what i_at i_end i_worth i_faultKind i_faultPlace i_got i_worked i_deliveries i_isPlanned i_bestDone i_bestCost)), (q 0, .inl (E.2.1 3, 800, .inl a_tape))] H := hP
    have hD : va_D A [(h0, .inr (12, mG q i_taped (nI sz9) i_sort i_what i_at i_end i_worth i_faultKind i_faultPlace i_got i_worked i_deliveries i_isPlanned i_bestDone i_bestCost)), (q 0, .inl (E.2.1 3, 800, .inl a_tape))] := hD
    refine lv_iconst (v := (-1)) hx hb dX12_keyAt_119 (by decide) ?_
    have hP9 := hP.sub (ws' := [(h0, .inr (12, mG q i_taped (nI sz9) i_sort i_what i_at i_end i_worth i_faultKind i_faultPlace i_got i_worked i_deliveries i_isPlanned i_bestDone i_bestCost)), (q 0, .inl (E.2.1 3, 800, .inl a_tape))]) [0, 1] rfl
    have hD9 := hD.sub (ws' := [(h0, .inr (12, mG q i_taped (nI sz9) i_sort i_what i_at i_end i_worth i_faultKind i_faultPlace i_got i_worked i_deliveries i_isPlanned i_bestDone i_bestCost)), (q 0, .inl (E.2.1 3, 800, .inl a_tape))]) [0, 1] (by decide) rfl
    exact W.iret (v := (-1)) hx hb hr (fun t ht hW => ⟨⟨(-1), (), rfl, trivial, by rw [ht]; exact hP9, hD9⟩, hS.F ht⟩) hS.2.2 dX12_keyAt_120
  · have hP : va_P E.1 vwCl [(h0, .inr (12, mG q i_taped (nI sz9) i_sort i_what i_at i_end i_worth i_faultKind i_faultPlace i_got i_worked i_deliveries i_isPlanned i_bestDone i_bestCost)), (q 0, .inl (E.2.1 3, 800, .inl a_tape))] H := hP
    have hD : va_D A [(h0, .inr (12, mG q i_taped (nI sz9) i_sort i_what i_at i_end i_worth i_faultKind i_faultPlace i_got i_worked i_deliveries i_isPlanned i_bestDone i_bestCost)), (q 0, .inl (E.2.1 3, 800, .inl a_tape))] := hD
    refine lv_iload_n hx hb dX12_keyAt_102 rfl (lv_at hl 1 rfl) ?_
    have hP9 := hP.sub (ws' := [(h0, .inr (12, mG q i_taped (nI sz9) i_sort i_what i_at i_end i_worth i_faultKind i_faultPlace i_got i_worked i_deliveries i_isPlanned i_bestDone i_bestCost)), (q 0, .inl (E.2.1 3, 800, .inl a_tape))]) [0, 1] rfl
    have hD9 := hD.sub (ws' := [(h0, .inr (12, mG q i_taped (nI sz9) i_sort i_what i_at i_end i_worth i_faultKind i_faultPlace i_got i_worked i_deliveries i_isPlanned i_bestDone i_bestCost)), (q 0, .inl (E.2.1 3, 800, .inl a_tape))]) [0, 1] (by decide) rfl
    exact W.iret (v := w_1) hx hb hr (fun t ht hW => ⟨⟨w_1, (), rfl, trivial, by rw [ht]; exact hP9, hD9⟩, hS.F ht⟩) hS.2.2 dX12_keyAt_103
set_option maxHeartbeats 4000000 in
set_option maxRecDepth 100000 in
theorem lm_scan1 {p : Program} {l : Launch} {e : Env} {s : State} {m : MethodId} {args : Array Value} {below : List Frame} {meth : Method} {c : Code} {Q : State → Prop} {A : Nat → Prop} (E : vE) (h0 : Nat) (q : Nat → Nat) (i_taped : Int32) (i_sort : Int32) (i_what : Int32) (i_at : Int32) (i_worth : Int32) (i_faultKind : Int32) (i_faultPlace : Int32) (i_got : Int32) (i_worked : Int32) (i_deliveries : Int32) (i_isPlanned : Int32) (i_bestDone : Int32) (i_bestCost : Int32) (sz9 : Nat) (en9 : Nat) (a_tape : Nat → Int32) (hx : p.tables.exec = Jvm.exec) (hb : c.code = cX12_scan) (hml : c.maxLocals = 4) (hown : s.vm.findClass RX12 = some m.cls) (hts : ∀ w ∈ wsX12_scan, w.before args s = true) (hkn : kn E s) (hst : st E A s s.heap) (hA : ∀ q : Nat, s.heap.size ≤ q → A q) (hsz : sz9 ≤ 800) (hen : en9 ≤ sz9) (kk : ∀ (pv : Nat) (H : Heap) (locs : List Loc) (ls : Array Slot), (en9 ≤ pv ∧ pv ≤ sz9) → va_P E.1 vwCl [(h0, .inr (12, mG q i_taped (nI sz9) i_sort i_what i_at (nI en9) i_worth i_faultKind i_faultPlace i_got i_worked i_deliveries i_isPlanned i_bestDone i_bestCost)), (q 0, .inl (E.2.1 3, 800, .inl a_tape))] H → va_D A [(h0, .inr (12, mG q i_taped (nI sz9) i_sort i_what i_at (nI en9) i_worth i_faultKind i_faultPlace i_got i_worked i_deliveries i_isPlanned i_bestDone i_bestCost)), (q 0, .inl (E.2.1 3, 800, .inl a_tape))] → va_S A s.heap H locs → lv_has ls 4 [(0, .ref h0), (1, .int (nI pv))] → W p l e ({ frames := 5, cells := 0, slots := 0, locals := 112 }) s m args below meth c H locs 0 0 Q (F0 m 31 ls [])) : ∀ (n0 : Nat) (pv : Nat) (H : Heap) (locs : List Loc) (ls : Array Slot), sz9 - pv < n0 → (en9 ≤ pv ∧ pv ≤ sz9) → va_P E.1 vwCl [(h0, .inr (12, mG q i_taped (nI sz9) i_sort i_what i_at (nI en9) i_worth i_faultKind i_faultPlace i_got i_worked i_deliveries i_isPlanned i_bestDone i_bestCost)), (q 0, .inl (E.2.1 3, 800, .inl a_tape))] H → va_D A [(h0, .inr (12, mG q i_taped (nI sz9) i_sort i_what i_at (nI en9) i_worth i_faultKind i_faultPlace i_got i_worked i_deliveries i_isPlanned i_bestDone i_bestCost)), (q 0, .inl (E.2.1 3, 800, .inl a_tape))] → va_S A s.heap H locs → lv_has ls 4 [(0, .ref h0), (1, .int (nI pv))] → W p l e ({ frames := 5, cells := 0, slots := 0, locals := 112 }) s m args below meth c H locs 0 0 Q (F0 m 5 ls []) := by
  have hK := hkn.1
  have hAO := hkn.2.2.1
  have fl174 := hts (.fieldLink RX12 174 "BoatsHomeModel" "end" "I") (by first | exact List.mem_of_getElem? (i := 1) rfl | decide +kernel)
  have fl177 := hts (.fieldLink RX12 177 "BoatsHomeModel" "at" "I") (by first | exact List.mem_of_getElem? (i := 2) rfl | decide +kernel)
  have fl180 := hts (.fieldLink RX12 180 "BoatsHomeModel" "sort" "I") (by first | exact List.mem_of_getElem? (i := 3) rfl | decide +kernel)
  have fl191 := hts (.fieldLink RX12 191 "BoatsHomeModel" "what" "I") (by first | exact List.mem_of_getElem? (i := 4) rfl | decide +kernel)
  have fl197 := hts (.fieldLink RX12 197 "BoatsHomeModel" "worth" "I") (by first | exact List.mem_of_getElem? (i := 5) rfl | decide +kernel)
  have inX12 : ∀ w ∈ u_ws RX12 TX12 59, w ∈ wsX12_scan := by first | exact fun w h9 => (List.mem_cons_of_mem _ (List.mem_append_right _ h9)) | decide +kernel
  intro n0
  induction n0 with
  | zero =>
    intro pv H locs ls hn0
    exact absurd hn0 (Nat.not_lt_zero _)
  | succ n0 ih =>
    intro pv H locs ls hn0 hpv hP hD hS hl
    refine lv_aload_n hx hb dX12_scan_5 rfl (lv_at hl 0 rfl) ?_
    refine lv_iload_n hx hb dX12_scan_6 rfl (lv_at hl 1 rfl) ?_
    have hPc := hP.sub (ws' := [(h0, .inr (12, mG q i_taped (nI sz9) i_sort i_what i_at (nI en9) i_worth i_faultKind i_faultPlace i_got i_worked i_deliveries i_isPlanned i_bestDone i_bestCost)), (q 0, .inl (E.2.1 3, 800, .inl a_tape))]) [0, 1] rfl
    have hDc := hD.sub (ws' := [(h0, .inr (12, mG q i_taped (nI sz9) i_sort i_what i_at (nI en9) i_worth i_faultKind i_faultPlace i_got i_worked i_deliveries i_isPlanned i_bestDone i_bestCost)), (q 0, .inl (E.2.1 3, 800, .inl a_tape))]) [0, 1] (by decide) rfl
    have hFc := va_free (wc := [(h0, .inr (12, mG q i_taped (nI sz9) i_sort i_what i_at (nI en9) i_worth i_faultKind i_faultPlace i_got i_worked i_deliveries i_isPlanned i_bestDone i_bestCost)), (q 0, .inl (E.2.1 3, 800, .inl a_tape))]) hD hS hA [0, 1] rfl
    refine va_calli (va_runV (As := [.int (nI pv)]) (rest := []) ⟨hx, hb, hml, hown, hts⟩ (c_X12_see l E h0 q i_taped i_sort i_what i_at (nI en9) i_worth i_faultKind i_faultPlace i_got i_worked i_deliveries i_isPlanned i_bestDone i_bestCost sz9 pv a_tape H.size (by omega) (by omega)) (cwV 1 hts gX12_scan_X12_see rfl rfl rfl hdV_X12_see ⟨Nat.le_of_ble_eq_true rfl, Nat.le_of_ble_eq_true rfl⟩) ⟨pcW_blind, va_recv hK hPc (ci := 12) (q0 := 0) rfl rfl, (pcW_pre hPc hkn hDc hst hS hFc)⟩ rfl rfl hl.1 rfl (lv_room (Nat.le_of_ble_eq_true rfl)) dX12_scan_7 ⟨Nat.le_of_ble_eq_true rfl, Nat.le_of_ble_eq_true rfl⟩) hS (fun q _ h => hFc q h) hFc (fun r_1 u t H1 locs ht hvm hw_2 hB hz1 hk1 hS => ?_)
    obtain ⟨hP1, hD1⟩ := hB
    rw [ht] at hP1
    try dsimp only at hw_2
    obtain ⟨hP, hD⟩ := va_join (wr := []) (w1 := [(h0, .inr (12, mG q i_taped (nI sz9) i_sort i_what i_at (nI en9) i_worth i_faultKind i_faultPlace i_got i_worked i_deliveries i_isPlanned i_bestDone i_bestCost)), (q 0, .inl (E.2.1 3, 800, .inl a_tape))]) hP hD [0, 1] [] rfl rfl (by decide) (by decide) hk1 hFc hP1 hD1
    generalize H1 = H at hP hS ⊢
    have hP : va_P E.1 vwCl [(h0, .inr (12, mG q i_taped (nI sz9) i_sort i_what i_at (nI en9) i_worth i_faultKind i_faultPlace i_got i_worked i_deliveries i_isPlanned i_bestDone i_bestCost)), (q 0, .inl (E.2.1 3, 800, .inl a_tape))] H := hP
    have hD : va_D A [(h0, .inr (12, mG q i_taped (nI sz9) i_sort i_what i_at (nI en9) i_worth i_faultKind i_faultPlace i_got i_worked i_deliveries i_isPlanned i_bestDone i_bestCost)), (q 0, .inl (E.2.1 3, 800, .inl a_tape))] := hD
    refine lv_bipush (v := 32) hx hb dX12_scan_10 (by decide) ?_
    refine lv_icmp_eq (tgt := 25) hx hb dX12_scan_12 (by decide) (fun c_3 => ?_) (fun c_3 => ?_)
    · refine lv_iinc (v := (nI (pv + 1))) (lv' := [(1, .int (nI (pv + 1))), (0, .ref h0)]) hx hb dX12_scan_25 hl (k := 1) rfl (show nI pv + 1 = nI (pv + 1) from nI_1 pv) (by decide) rfl (fun ls hl => ?_)
      refine lv_goto (tgt := 5) hx hb dX12_scan_28 (by decide) ?_
      have hlt : pv < sz9 := by
        rcases hw_2 with h | h
        · exact h
        · exact absurd (c_3.symm.trans h) (by decide)
      exact ih (pv + 1) _ _ _ (by omega) (by omega) (hP.sub [0, 1] rfl) (hD.sub [0, 1] (by decide) rfl) hS (lv_sub hl [1, 0] rfl)
    · refine lv_aload_n hx hb dX12_scan_15 rfl (lv_at hl 0 rfl) ?_
      refine lv_iload_n hx hb dX12_scan_16 rfl (lv_at hl 1 rfl) ?_
      have hPc := hP.sub (ws' := [(h0, .inr (12, mG q i_taped (nI sz9) i_sort i_what i_at (nI en9) i_worth i_faultKind i_faultPlace i_got i_worked i_deliveries i_isPlanned i_bestDone i_bestCost)), (q 0, .inl (E.2.1 3, 800, .inl a_tape))]) [0, 1] rfl
      have hDc := hD.sub (ws' := [(h0, .inr (12, mG q i_taped (nI sz9) i_sort i_what i_at (nI en9) i_worth i_faultKind i_faultPlace i_got i_worked i_deliveries i_isPlanned i_bestDone i_bestCost)), (q 0, .inl (E.2.1 3, 800, .inl a_tape))]) [0, 1] (by decide) rfl
      have hFc := va_free (wc := [(h0, .inr (12, mG q i_taped (nI sz9) i_sort i_what i_at (nI en9) i_worth i_faultKind i_faultPlace i_got i_worked i_deliveries i_isPlanned i_bestDone i_bestCost)), (q 0, .inl (E.2.1 3, 800, .inl a_tape))]) hD hS hA [0, 1] rfl
      refine va_calli (va_runV (As := [.int (nI pv)]) (rest := []) ⟨hx, hb, hml, hown, hts⟩ (c_X12_see l E h0 q i_taped i_sort i_what i_at (nI en9) i_worth i_faultKind i_faultPlace i_got i_worked i_deliveries i_isPlanned i_bestDone i_bestCost sz9 pv a_tape H.size (by omega) (by omega)) (cwV 1 hts gX12_scan_X12_see rfl rfl rfl hdV_X12_see ⟨Nat.le_of_ble_eq_true rfl, Nat.le_of_ble_eq_true rfl⟩) ⟨pcW_blind, va_recv hK hPc (ci := 12) (q0 := 0) rfl rfl, (pcW_pre hPc hkn hDc hst hS hFc)⟩ rfl rfl hl.1 rfl (lv_room (Nat.le_of_ble_eq_true rfl)) dX12_scan_17 ⟨Nat.le_of_ble_eq_true rfl, Nat.le_of_ble_eq_true rfl⟩) hS (fun q _ h => hFc q h) hFc (fun r_4 u t H1 locs ht hvm hw_5 hB hz1 hk1 hS => ?_)
      obtain ⟨hP1, hD1⟩ := hB
      rw [ht] at hP1
      try dsimp only at hw_5
      obtain ⟨hP, hD⟩ := va_join (wr := []) (w1 := [(h0, .inr (12, mG q i_taped (nI sz9) i_sort i_what i_at (nI en9) i_worth i_faultKind i_faultPlace i_got i_worked i_deliveries i_isPlanned i_bestDone i_bestCost)), (q 0, .inl (E.2.1 3, 800, .inl a_tape))]) hP hD [0, 1] [] rfl rfl (by decide) (by decide) hk1 hFc hP1 hD1
      generalize H1 = H at hP hS ⊢
      have hP : va_P E.1 vwCl [(h0, .inr (12, mG q i_taped (nI sz9) i_sort i_what i_at (nI en9) i_worth i_faultKind i_faultPlace i_got i_worked i_deliveries i_isPlanned i_bestDone i_bestCost)), (q 0, .inl (E.2.1 3, 800, .inl a_tape))] H := hP
      have hD : va_D A [(h0, .inr (12, mG q i_taped (nI sz9) i_sort i_what i_at (nI en9) i_worth i_faultKind i_faultPlace i_got i_worked i_deliveries i_isPlanned i_bestDone i_bestCost)), (q 0, .inl (E.2.1 3, 800, .inl a_tape))] := hD
      refine lv_bipush (v := 10) hx hb dX12_scan_20 (by decide) ?_
      refine lv_icmp_ne (tgt := 31) hx hb dX12_scan_22 (by decide) (fun c_6 => ?_) (fun c_6 => ?_)
      · exact kk pv _ _ _ hpv (hP.sub [0, 1] rfl) (hD.sub [0, 1] (by decide) rfl) hS (lv_sub hl [0, 1] rfl)
      · refine lv_iinc (v := (nI (pv + 1))) (lv' := [(1, .int (nI (pv + 1))), (0, .ref h0)]) hx hb dX12_scan_25 hl (k := 1) rfl (show nI pv + 1 = nI (pv + 1) from nI_1 pv) (by decide) rfl (fun ls hl => ?_)
        refine lv_goto (tgt := 5) hx hb dX12_scan_28 (by decide) ?_
        have hlt : pv < sz9 := by
          rcases hw_5 with h | h
          · exact h
          · exact absurd (c_6.symm.trans h) (by decide)
        exact ih (pv + 1) _ _ _ (by omega) (by omega) (hP.sub [0, 1] rfl) (hD.sub [0, 1] (by decide) rfl) hS (lv_sub hl [1, 0] rfl)
set_option maxHeartbeats 4000000 in
set_option maxRecDepth 100000 in
theorem lm_scan2 {p : Program} {l : Launch} {e : Env} {s : State} {m : MethodId} {args : Array Value} {below : List Frame} {meth : Method} {c : Code} {Q : State → Prop} {A : Nat → Prop} (E : vE) (h0 : Nat) (q : Nat → Nat) (i_taped : Int32) (i_sort : Int32) (i_what : Int32) (i_at : Int32) (i_worth : Int32) (i_faultKind : Int32) (i_faultPlace : Int32) (i_got : Int32) (i_worked : Int32) (i_deliveries : Int32) (i_isPlanned : Int32) (i_bestDone : Int32) (i_bestCost : Int32) (sz9 : Nat) (en9 : Nat) (pv : Nat) (a_tape : Nat → Int32) (hx : p.tables.exec = Jvm.exec) (hb : c.code = cX12_scan) (hml : c.maxLocals = 4) (hown : s.vm.findClass RX12 = some m.cls) (hts : ∀ w ∈ wsX12_scan, w.before args s = true) (hkn : kn E s) (hst : st E A s s.heap) (hA : ∀ q : Nat, s.heap.size ≤ q → A q) (hsz : sz9 ≤ 800) (hen : en9 ≤ sz9) (hpv : en9 ≤ pv ∧ pv < sz9) (kk : ∀ (ev : Nat) (H : Heap) (locs : List Loc) (ls : Array Slot), (pv < ev ∧ ev ≤ sz9) → va_P E.1 vwCl [(h0, .inr (12, mG q i_taped (nI sz9) i_sort i_what i_at (nI en9) i_worth i_faultKind i_faultPlace i_got i_worked i_deliveries i_isPlanned i_bestDone i_bestCost)), (q 0, .inl (E.2.1 3, 800, .inl a_tape))] H → va_D A [(h0, .inr (12, mG q i_taped (nI sz9) i_sort i_what i_at (nI en9) i_worth i_faultKind i_faultPlace i_got i_worked i_deliveries i_isPlanned i_bestDone i_bestCost)), (q 0, .inl (E.2.1 3, 800, .inl a_tape))] → va_S A s.heap H locs → lv_has ls 4 [(0, .ref h0), (1, .int (nI pv)), (3, .int (nI ev))] → W p l e ({ frames := 5, cells := 0, slots := 0, locals := 112 }) s m args below meth c H locs 0 0 Q (F0 m 85 ls [])) : ∀ (n0 : Nat) (ev : Nat) (H : Heap) (locs : List Loc) (ls : Array Slot), sz9 - ev < n0 → (pv < ev ∧ ev ≤ sz9) → va_P E.1 vwCl [(h0, .inr (12, mG q i_taped (nI sz9) i_sort i_what i_at (nI en9) i_worth i_faultKind i_faultPlace i_got i_worked i_deliveries i_isPlanned i_bestDone i_bestCost)), (q 0, .inl (E.2.1 3, 800, .inl a_tape))] H → va_D A [(h0, .inr (12, mG q i_taped (nI sz9) i_sort i_what i_at (nI en9) i_worth i_faultKind i_faultPlace i_got i_worked i_deliveries i_isPlanned i_bestDone i_bestCost)), (q 0, .inl (E.2.1 3, 800, .inl a_tape))] → va_S A s.heap H locs → lv_has ls 4 [(0, .ref h0), (1, .int (nI pv)), (3, .int (nI ev))] → W p l e ({ frames := 5, cells := 0, slots := 0, locals := 112 }) s m args below meth c H locs 0 0 Q (F0 m 68 ls []) := by
  have hK := hkn.1
  have hAO := hkn.2.2.1
  have fl174 := hts (.fieldLink RX12 174 "BoatsHomeModel" "end" "I") (by first | exact List.mem_of_getElem? (i := 1) rfl | decide +kernel)
  have fl177 := hts (.fieldLink RX12 177 "BoatsHomeModel" "at" "I") (by first | exact List.mem_of_getElem? (i := 2) rfl | decide +kernel)
  have fl180 := hts (.fieldLink RX12 180 "BoatsHomeModel" "sort" "I") (by first | exact List.mem_of_getElem? (i := 3) rfl | decide +kernel)
  have fl191 := hts (.fieldLink RX12 191 "BoatsHomeModel" "what" "I") (by first | exact List.mem_of_getElem? (i := 4) rfl | decide +kernel)
  have fl197 := hts (.fieldLink RX12 197 "BoatsHomeModel" "worth" "I") (by first | exact List.mem_of_getElem? (i := 5) rfl | decide +kernel)
  have inX12 : ∀ w ∈ u_ws RX12 TX12 59, w ∈ wsX12_scan := by first | exact fun w h9 => (List.mem_cons_of_mem _ (List.mem_append_right _ h9)) | decide +kernel
  intro n0
  induction n0 with
  | zero =>
    intro ev H locs ls hn0
    exact absurd hn0 (Nat.not_lt_zero _)
  | succ n0 ih =>
    intro ev H locs ls hn0 hev hP hD hS hl
    refine lv_aload_n hx hb dX12_scan_68 rfl (lv_at hl 0 rfl) ?_
    refine lv_iload_n hx hb dX12_scan_69 rfl (lv_at hl 2 rfl) ?_
    have hPc := hP.sub (ws' := [(h0, .inr (12, mG q i_taped (nI sz9) i_sort i_what i_at (nI en9) i_worth i_faultKind i_faultPlace i_got i_worked i_deliveries i_isPlanned i_bestDone i_bestCost)), (q 0, .inl (E.2.1 3, 800, .inl a_tape))]) [0, 1] rfl
    have hDc := hD.sub (ws' := [(h0, .inr (12, mG q i_taped (nI sz9) i_sort i_what i_at (nI en9) i_worth i_faultKind i_faultPlace i_got i_worked i_deliveries i_isPlanned i_bestDone i_bestCost)), (q 0, .inl (E.2.1 3, 800, .inl a_tape))]) [0, 1] (by decide) rfl
    have hFc := va_free (wc := [(h0, .inr (12, mG q i_taped (nI sz9) i_sort i_what i_at (nI en9) i_worth i_faultKind i_faultPlace i_got i_worked i_deliveries i_isPlanned i_bestDone i_bestCost)), (q 0, .inl (E.2.1 3, 800, .inl a_tape))]) hD hS hA [0, 1] rfl
    refine va_calli (va_runV (As := [.int (nI ev)]) (rest := []) ⟨hx, hb, hml, hown, hts⟩ (c_X12_see l E h0 q i_taped i_sort i_what i_at (nI en9) i_worth i_faultKind i_faultPlace i_got i_worked i_deliveries i_isPlanned i_bestDone i_bestCost sz9 ev a_tape H.size (by omega) (by omega)) (cwV 1 hts gX12_scan_X12_see rfl rfl rfl hdV_X12_see ⟨Nat.le_of_ble_eq_true rfl, Nat.le_of_ble_eq_true rfl⟩) ⟨pcW_blind, va_recv hK hPc (ci := 12) (q0 := 0) rfl rfl, (pcW_pre hPc hkn hDc hst hS hFc)⟩ rfl rfl hl.1 rfl (lv_room (Nat.le_of_ble_eq_true rfl)) dX12_scan_70 ⟨Nat.le_of_ble_eq_true rfl, Nat.le_of_ble_eq_true rfl⟩) hS (fun q _ h => hFc q h) hFc (fun r_1 u t H1 locs ht hvm hw_2 hB hz1 hk1 hS => ?_)
    obtain ⟨hP1, hD1⟩ := hB
    rw [ht] at hP1
    try dsimp only at hw_2
    obtain ⟨hP, hD⟩ := va_join (wr := []) (w1 := [(h0, .inr (12, mG q i_taped (nI sz9) i_sort i_what i_at (nI en9) i_worth i_faultKind i_faultPlace i_got i_worked i_deliveries i_isPlanned i_bestDone i_bestCost)), (q 0, .inl (E.2.1 3, 800, .inl a_tape))]) hP hD [0, 1] [] rfl rfl (by decide) (by decide) hk1 hFc hP1 hD1
    generalize H1 = H at hP hS ⊢
    have hP : va_P E.1 vwCl [(h0, .inr (12, mG q i_taped (nI sz9) i_sort i_what i_at (nI en9) i_worth i_faultKind i_faultPlace i_got i_worked i_deliveries i_isPlanned i_bestDone i_bestCost)), (q 0, .inl (E.2.1 3, 800, .inl a_tape))] H := hP
    have hD : va_D A [(h0, .inr (12, mG q i_taped (nI sz9) i_sort i_what i_at (nI en9) i_worth i_faultKind i_faultPlace i_got i_worked i_deliveries i_isPlanned i_bestDone i_bestCost)), (q 0, .inl (E.2.1 3, 800, .inl a_tape))] := hD
    have hPc := hP.sub (ws' := []) [] rfl
    have hDc := hD.sub (ws' := []) [] (by decide) rfl
    have hFc := va_free (wc := []) hD hS hA [] rfl
    refine va_calli (va_runS (As := [.int r_1]) (rest := []) ⟨hx, hb, hml, hown, hts⟩ (c_X12_isSmall l E r_1 H.size ) (va_cwS 1 hts gX12_scan_X12_isSmall rfl rfl rfl hdS_X12_isSmall ⟨Nat.le_of_ble_eq_true rfl, Nat.le_of_ble_eq_true rfl⟩) ⟨pcW_blind, (pcW_pre hPc hkn hDc hst hS hFc)⟩ rfl rfl hl.1 rfl (lv_room (Nat.le_of_ble_eq_true rfl)) dX12_scan_73 ⟨Nat.le_of_ble_eq_true rfl, Nat.le_of_ble_eq_true rfl⟩) hS (fun q _ h => hFc q h) hFc (fun r_3 u t H1 locs ht hvm hw_4 hB hz1 hk1 hS => ?_)
    obtain ⟨hP1, hD1⟩ := hB
    rw [ht] at hP1
    try dsimp only at hw_4
    obtain ⟨hP, hD⟩ := va_join (wr := [(h0, .inr (12, mG q i_taped (nI sz9) i_sort i_what i_at (nI en9) i_worth i_faultKind i_faultPlace i_got i_worked i_deliveries i_isPlanned i_bestDone i_bestCost)), (q 0, .inl (E.2.1 3, 800, .inl a_tape))]) (w1 := []) hP hD [] [0, 1] rfl rfl (by decide) (by decide) hk1 hFc hP1 hD1
    generalize H1 = H at hP hS ⊢
    have hP : va_P E.1 vwCl [(h0, .inr (12, mG q i_taped (nI sz9) i_sort i_what i_at (nI en9) i_worth i_faultKind i_faultPlace i_got i_worked i_deliveries i_isPlanned i_bestDone i_bestCost)), (q 0, .inl (E.2.1 3, 800, .inl a_tape))] H := hP
    have hD : va_D A [(h0, .inr (12, mG q i_taped (nI sz9) i_sort i_what i_at (nI en9) i_worth i_faultKind i_faultPlace i_got i_worked i_deliveries i_isPlanned i_bestDone i_bestCost)), (q 0, .inl (E.2.1 3, 800, .inl a_tape))] := hD
    refine lv_if_eq (tgt := 85) hx hb dX12_scan_76 (by decide) (fun c_5 => ?_) (fun c_5 => ?_)
    · have b_6 : inR r_1 97 122 = false := bz hw_4 c_5
      exact kk ev _ _ _ hev (hP.sub [0, 1] rfl) (hD.sub [0, 1] (by decide) rfl) hS (lv_sub hl [0, 1, 2] rfl)
    · have b_7 : inR r_1 97 122 = true := bn hw_4 c_5
      have hlt : ev < sz9 := by
        rcases hw_2 with h | h
        · exact h
        · exact absurd b_7 (by rw [h]; decide)
      refine lv_iinc (v := (nI (ev + 1))) (lv' := [(3, .int (nI (ev + 1))), (0, .ref h0), (1, .int (nI pv))]) hx hb dX12_scan_79 hl (k := 2) rfl (show nI ev + 1 = nI (ev + 1) from nI_1 ev) (by decide) rfl (fun ls hl => ?_)
      refine lv_goto (tgt := 68) hx hb dX12_scan_82 (by decide) ?_
      exact ih (ev + 1) _ _ _ (by omega) (by omega) (hP.sub [0, 1] rfl) (hD.sub [0, 1] (by decide) rfl) hS (lv_sub hl [1, 2, 0] rfl)
set_option maxHeartbeats 4000000 in
set_option maxRecDepth 100000 in
theorem lm_scan3 {p : Program} {l : Launch} {e : Env} {s : State} {m : MethodId} {args : Array Value} {below : List Frame} {meth : Method} {c : Code} {Q : State → Prop} {A : Nat → Prop} (E : vE) (h0 : Nat) (q : Nat → Nat) (i_taped : Int32) (i_sort : Int32) (i_what : Int32) (i_at : Int32) (i_faultKind : Int32) (i_faultPlace : Int32) (i_got : Int32) (i_worked : Int32) (i_deliveries : Int32) (i_isPlanned : Int32) (i_bestDone : Int32) (i_bestCost : Int32) (sz9 : Nat) (en9 : Nat) (pv : Nat) (a_tape : Nat → Int32) (hx : p.tables.exec = Jvm.exec) (hb : c.code = cX12_scan) (hml : c.maxLocals = 4) (hown : s.vm.findClass RX12 = some m.cls) (hts : ∀ w ∈ wsX12_scan, w.before args s = true) (hkn : kn E s) (hst : st E A s s.heap) (hA : ∀ q : Nat, s.heap.size ≤ q → A q) (hsz : sz9 ≤ 800) (hen : en9 ≤ sz9) (hpv : en9 ≤ pv ∧ pv < sz9) (kk : ∀ (ev : Nat) (i_worth : Int32) (H : Heap) (locs : List Loc) (ls : Array Slot), (pv < ev ∧ ev ≤ sz9) → va_P E.1 vwCl [(h0, .inr (12, mG q i_taped (nI sz9) i_sort i_what i_at (nI en9) i_worth i_faultKind i_faultPlace i_got i_worked i_deliveries i_isPlanned i_bestDone i_bestCost)), (q 0, .inl (E.2.1 3, 800, .inl a_tape))] H → va_D A [(h0, .inr (12, mG q i_taped (nI sz9) i_sort i_what i_at (nI en9) i_worth i_faultKind i_faultPlace i_got i_worked i_deliveries i_isPlanned i_bestDone i_bestCost)), (q 0, .inl (E.2.1 3, 800, .inl a_tape))] → va_S A s.heap H locs → lv_has ls 4 [(0, .ref h0), (1, .int (nI pv)), (3, .int (nI ev))] → W p l e ({ frames := 5, cells := 0, slots := 0, locals := 112 }) s m args below meth c H locs 0 0 Q (F0 m 183 ls [])) : ∀ (n0 : Nat) (ev : Nat) (i_worth : Int32) (H : Heap) (locs : List Loc) (ls : Array Slot), sz9 - ev < n0 → (pv < ev ∧ ev ≤ sz9) → va_P E.1 vwCl [(h0, .inr (12, mG q i_taped (nI sz9) i_sort i_what i_at (nI en9) i_worth i_faultKind i_faultPlace i_got i_worked i_deliveries i_isPlanned i_bestDone i_bestCost)), (q 0, .inl (E.2.1 3, 800, .inl a_tape))] H → va_D A [(h0, .inr (12, mG q i_taped (nI sz9) i_sort i_what i_at (nI en9) i_worth i_faultKind i_faultPlace i_got i_worked i_deliveries i_isPlanned i_bestDone i_bestCost)), (q 0, .inl (E.2.1 3, 800, .inl a_tape))] → va_S A s.heap H locs → lv_has ls 4 [(0, .ref h0), (1, .int (nI pv)), (3, .int (nI ev))] → W p l e ({ frames := 5, cells := 0, slots := 0, locals := 112 }) s m args below meth c H locs 0 0 Q (F0 m 132 ls []) := by
  have hK := hkn.1
  have hAO := hkn.2.2.1
  have fl174 := hts (.fieldLink RX12 174 "BoatsHomeModel" "end" "I") (by first | exact List.mem_of_getElem? (i := 1) rfl | decide +kernel)
  have fl177 := hts (.fieldLink RX12 177 "BoatsHomeModel" "at" "I") (by first | exact List.mem_of_getElem? (i := 2) rfl | decide +kernel)
  have fl180 := hts (.fieldLink RX12 180 "BoatsHomeModel" "sort" "I") (by first | exact List.mem_of_getElem? (i := 3) rfl | decide +kernel)
  have fl191 := hts (.fieldLink RX12 191 "BoatsHomeModel" "what" "I") (by first | exact List.mem_of_getElem? (i := 4) rfl | decide +kernel)
  have fl197 := hts (.fieldLink RX12 197 "BoatsHomeModel" "worth" "I") (by first | exact List.mem_of_getElem? (i := 5) rfl | decide +kernel)
  have inX12 : ∀ w ∈ u_ws RX12 TX12 59, w ∈ wsX12_scan := by first | exact fun w h9 => (List.mem_cons_of_mem _ (List.mem_append_right _ h9)) | decide +kernel
  intro n0
  induction n0 with
  | zero =>
    intro ev i_worth H locs ls hn0
    exact absurd hn0 (Nat.not_lt_zero _)
  | succ n0 ih =>
    intro ev i_worth H locs ls hn0 hev hP hD hS hl
    refine lv_aload_n hx hb dX12_scan_132 rfl (lv_at hl 0 rfl) ?_
    refine lv_iload_n hx hb dX12_scan_133 rfl (lv_at hl 2 rfl) ?_
    have hPc := hP.sub (ws' := [(h0, .inr (12, mG q i_taped (nI sz9) i_sort i_what i_at (nI en9) i_worth i_faultKind i_faultPlace i_got i_worked i_deliveries i_isPlanned i_bestDone i_bestCost)), (q 0, .inl (E.2.1 3, 800, .inl a_tape))]) [0, 1] rfl
    have hDc := hD.sub (ws' := [(h0, .inr (12, mG q i_taped (nI sz9) i_sort i_what i_at (nI en9) i_worth i_faultKind i_faultPlace i_got i_worked i_deliveries i_isPlanned i_bestDone i_bestCost)), (q 0, .inl (E.2.1 3, 800, .inl a_tape))]) [0, 1] (by decide) rfl
    have hFc := va_free (wc := [(h0, .inr (12, mG q i_taped (nI sz9) i_sort i_what i_at (nI en9) i_worth i_faultKind i_faultPlace i_got i_worked i_deliveries i_isPlanned i_bestDone i_bestCost)), (q 0, .inl (E.2.1 3, 800, .inl a_tape))]) hD hS hA [0, 1] rfl
    refine va_calli (va_runV (As := [.int (nI ev)]) (rest := []) ⟨hx, hb, hml, hown, hts⟩ (c_X12_see l E h0 q i_taped i_sort i_what i_at (nI en9) i_worth i_faultKind i_faultPlace i_got i_worked i_deliveries i_isPlanned i_bestDone i_bestCost sz9 ev a_tape H.size (by omega) (by omega)) (cwV 1 hts gX12_scan_X12_see rfl rfl rfl hdV_X12_see ⟨Nat.le_of_ble_eq_true rfl, Nat.le_of_ble_eq_true rfl⟩) ⟨pcW_blind, va_recv hK hPc (ci := 12) (q0 := 0) rfl rfl, (pcW_pre hPc hkn hDc hst hS hFc)⟩ rfl rfl hl.1 rfl (lv_room (Nat.le_of_ble_eq_true rfl)) dX12_scan_134 ⟨Nat.le_of_ble_eq_true rfl, Nat.le_of_ble_eq_true rfl⟩) hS (fun q _ h => hFc q h) hFc (fun r_1 u t H1 locs ht hvm hw_2 hB hz1 hk1 hS => ?_)
    obtain ⟨hP1, hD1⟩ := hB
    rw [ht] at hP1
    try dsimp only at hw_2
    obtain ⟨hP, hD⟩ := va_join (wr := []) (w1 := [(h0, .inr (12, mG q i_taped (nI sz9) i_sort i_what i_at (nI en9) i_worth i_faultKind i_faultPlace i_got i_worked i_deliveries i_isPlanned i_bestDone i_bestCost)), (q 0, .inl (E.2.1 3, 800, .inl a_tape))]) hP hD [0, 1] [] rfl rfl (by decide) (by decide) hk1 hFc hP1 hD1
    generalize H1 = H at hP hS ⊢
    have hP : va_P E.1 vwCl [(h0, .inr (12, mG q i_taped (nI sz9) i_sort i_what i_at (nI en9) i_worth i_faultKind i_faultPlace i_got i_worked i_deliveries i_isPlanned i_bestDone i_bestCost)), (q 0, .inl (E.2.1 3, 800, .inl a_tape))] H := hP
    have hD : va_D A [(h0, .inr (12, mG q i_taped (nI sz9) i_sort i_what i_at (nI en9) i_worth i_faultKind i_faultPlace i_got i_worked i_deliveries i_isPlanned i_bestDone i_bestCost)), (q 0, .inl (E.2.1 3, 800, .inl a_tape))] := hD
    have hPc := hP.sub (ws' := []) [] rfl
    have hDc := hD.sub (ws' := []) [] (by decide) rfl
    have hFc := va_free (wc := []) hD hS hA [] rfl
    refine va_calli (va_runS (As := [.int r_1]) (rest := []) ⟨hx, hb, hml, hown, hts⟩ (c_X12_isDigit l E r_1 H.size ) (va_cwS 1 hts gX12_scan_X12_isDigit rfl rfl rfl hdS_X12_isDigit ⟨Nat.le_of_ble_eq_true rfl, Nat.le_of_ble_eq_true rfl⟩) ⟨pcW_blind, (pcW_pre hPc hkn hDc hst hS hFc)⟩ rfl rfl hl.1 rfl (lv_room (Nat.le_of_ble_eq_true rfl)) dX12_scan_137 ⟨Nat.le_of_ble_eq_true rfl, Nat.le_of_ble_eq_true rfl⟩) hS (fun q _ h => hFc q h) hFc (fun r_3 u t H1 locs ht hvm hw_4 hB hz1 hk1 hS => ?_)
    obtain ⟨hP1, hD1⟩ := hB
    rw [ht] at hP1
    try dsimp only at hw_4
    obtain ⟨hP, hD⟩ := va_join (wr := [(h0, .inr (12, mG q i_taped (nI sz9) i_sort i_what i_at (nI en9) i_worth i_faultKind i_faultPlace i_got i_worked i_deliveries i_isPlanned i_bestDone i_bestCost)), (q 0, .inl (E.2.1 3, 800, .inl a_tape))]) (w1 := []) hP hD [] [0, 1] rfl rfl (by decide) (by decide) hk1 hFc hP1 hD1
    generalize H1 = H at hP hS ⊢
    have hP : va_P E.1 vwCl [(h0, .inr (12, mG q i_taped (nI sz9) i_sort i_what i_at (nI en9) i_worth i_faultKind i_faultPlace i_got i_worked i_deliveries i_isPlanned i_bestDone i_bestCost)), (q 0, .inl (E.2.1 3, 800, .inl a_tape))] H := hP
    have hD : va_D A [(h0, .inr (12, mG q i_taped (nI sz9) i_sort i_what i_at (nI en9) i_worth i_faultKind i_faultPlace i_got i_worked i_deliveries i_isPlanned i_bestDone i_bestCost)), (q 0, .inl (E.2.1 3, 800, .inl a_tape))] := hD
    refine lv_if_eq (tgt := 183) hx hb dX12_scan_140 (by decide) (fun c_5 => ?_) (fun c_5 => ?_)
    · have b_6 : inR r_1 48 57 = false := bz hw_4 c_5
      exact kk ev i_worth _ _ _ hev (hP.sub [0, 1] rfl) (hD.sub [0, 1] (by decide) rfl) hS (lv_sub hl [0, 1, 2] rfl)
    · have b_7 : inR r_1 48 57 = true := bn hw_4 c_5
      have hlt : ev < sz9 := by
        rcases hw_2 with h | h
        · exact h
        · exact absurd b_7 (by rw [h]; decide)
      refine lv_aload_n hx hb dX12_scan_143 rfl (lv_at hl 0 rfl) ?_
      refine lv_iload_n hx hb dX12_scan_144 rfl (lv_at hl 2 rfl) ?_
      refine lv_iload_n hx hb dX12_scan_145 rfl (lv_at hl 1 rfl) ?_
      refine lv_isub hx hb dX12_scan_146 ?_
      refine lv_topi (fun x_8 ex_8 => ?_)
      obtain rfl : x_8 = nI (ev - pv) := ex_8.trans (pk_sub (a := ev) (b := pv) (by omega))
      refine lv_iconst (v := 4) hx hb dX12_scan_147 (by decide) ?_
      refine lv_icmp_ge (tgt := 170) hx hb dX12_scan_148 (by decide) (fun c_9 => ?_) (fun c_9 => ?_)
      · refine lv_aload_n hx hb dX12_scan_170 rfl (lv_at hl 0 rfl) ?_
        refine va_get (D := E.1) (ci := 12) (v := .int i_worth) (C := RX12) (T := TX12) (N := 59) hx hb hts inX12 hown hK hP 0 rfl rfl 7 (by decide) fl197 (fun _ h9 => h9) rfl dX12_scan_171 ?_
        refine va_put (D := E.1) (ci := 12) (v := .int i_worth) (ty := .int) (C := RX12) (T := TX12) (N := 59) hx hb hts inX12 tyX12 tyX12_ok nmX12 hown hK hP hD hS 0 rfl rfl 7 (by decide) fl197 (fun _ h9 => h9) rfl (by decide +kernel) rfl rfl (Nat.le_of_ble_eq_true rfl) dX12_scan_174 (fun H locs hP hD hS => ?_)
        have hP : va_P E.1 vwCl [(h0, .inr (12, mG q i_taped (nI sz9) i_sort i_what i_at (nI en9) i_worth i_faultKind i_faultPlace i_got i_worked i_deliveries i_isPlanned i_bestDone i_bestCost)), (q 0, .inl (E.2.1 3, 800, .inl a_tape))] H := hP
        have hD : va_D A [(h0, .inr (12, mG q i_taped (nI sz9) i_sort i_what i_at (nI en9) i_worth i_faultKind i_faultPlace i_got i_worked i_deliveries i_isPlanned i_bestDone i_bestCost)), (q 0, .inl (E.2.1 3, 800, .inl a_tape))] := hD
        refine lv_iinc (v := (nI (ev + 1))) (lv' := [(3, .int (nI (ev + 1))), (0, .ref h0), (1, .int (nI pv))]) hx hb dX12_scan_177 hl (k := 2) rfl (show nI ev + 1 = nI (ev + 1) from nI_1 ev) (by decide) rfl (fun ls hl => ?_)
        refine lv_goto (tgt := 132) hx hb dX12_scan_180 (by decide) ?_
        exact ih (ev + 1) i_worth _ _ _ (by omega) (by omega) (hP.sub [0, 1] rfl) (hD.sub [0, 1] (by decide) rfl) hS (lv_sub hl [1, 2, 0] rfl)
      · refine lv_bipush (v := 10) hx hb dX12_scan_151 (by decide) ?_
        refine lv_aload_n hx hb dX12_scan_153 rfl (lv_at hl 0 rfl) ?_
        refine va_get (D := E.1) (ci := 12) (v := .int i_worth) (C := RX12) (T := TX12) (N := 59) hx hb hts inX12 hown hK hP 0 rfl rfl 7 (by decide) fl197 (fun _ h9 => h9) rfl dX12_scan_154 ?_
        refine lv_imul hx hb dX12_scan_157 ?_
        refine lv_topi (fun x_10 ex_10 => ?_)
        refine lv_aload_n hx hb dX12_scan_158 rfl (lv_at hl 0 rfl) ?_
        refine lv_iload_n hx hb dX12_scan_159 rfl (lv_at hl 2 rfl) ?_
        have hPc := hP.sub (ws' := [(h0, .inr (12, mG q i_taped (nI sz9) i_sort i_what i_at (nI en9) i_worth i_faultKind i_faultPlace i_got i_worked i_deliveries i_isPlanned i_bestDone i_bestCost)), (q 0, .inl (E.2.1 3, 800, .inl a_tape))]) [0, 1] rfl
        have hDc := hD.sub (ws' := [(h0, .inr (12, mG q i_taped (nI sz9) i_sort i_what i_at (nI en9) i_worth i_faultKind i_faultPlace i_got i_worked i_deliveries i_isPlanned i_bestDone i_bestCost)), (q 0, .inl (E.2.1 3, 800, .inl a_tape))]) [0, 1] (by decide) rfl
        have hFc := va_free (wc := [(h0, .inr (12, mG q i_taped (nI sz9) i_sort i_what i_at (nI en9) i_worth i_faultKind i_faultPlace i_got i_worked i_deliveries i_isPlanned i_bestDone i_bestCost)), (q 0, .inl (E.2.1 3, 800, .inl a_tape))]) hD hS hA [0, 1] rfl
        refine va_calli (va_runV (As := [.int (nI ev)]) (rest := [.int x_10, .ref h0]) ⟨hx, hb, hml, hown, hts⟩ (c_X12_see l E h0 q i_taped i_sort i_what i_at (nI en9) i_worth i_faultKind i_faultPlace i_got i_worked i_deliveries i_isPlanned i_bestDone i_bestCost sz9 ev a_tape H.size (by omega) (by omega)) (cwV 1 hts gX12_scan_X12_see rfl rfl rfl hdV_X12_see ⟨Nat.le_of_ble_eq_true rfl, Nat.le_of_ble_eq_true rfl⟩) ⟨pcW_blind, va_recv hK hPc (ci := 12) (q0 := 0) rfl rfl, (pcW_pre hPc hkn hDc hst hS hFc)⟩ rfl rfl hl.1 rfl (lv_room (Nat.le_of_ble_eq_true rfl)) dX12_scan_160 ⟨Nat.le_of_ble_eq_true rfl, Nat.le_of_ble_eq_true rfl⟩) hS (fun q _ h => hFc q h) hFc (fun r_11 u t H1 locs ht hvm hw_12 hB hz1 hk1 hS => ?_)
        obtain ⟨hP1, hD1⟩ := hB
        rw [ht] at hP1
        try dsimp only at hw_12
        obtain ⟨hP, hD⟩ := va_join (wr := []) (w1 := [(h0, .inr (12, mG q i_taped (nI sz9) i_sort i_what i_at (nI en9) i_worth i_faultKind i_faultPlace i_got i_worked i_deliveries i_isPlanned i_bestDone i_bestCost)), (q 0, .inl (E.2.1 3, 800, .inl a_tape))]) hP hD [0, 1] [] rfl rfl (by decide) (by decide) hk1 hFc hP1 hD1
        generalize H1 = H at hP hS ⊢
        have hP : va_P E.1 vwCl [(h0, .inr (12, mG q i_taped (nI sz9) i_sort i_what i_at (nI en9) i_worth i_faultKind i_faultPlace i_got i_worked i_deliveries i_isPlanned i_bestDone i_bestCost)), (q 0, .inl (E.2.1 3, 800, .inl a_tape))] H := hP
        have hD : va_D A [(h0, .inr (12, mG q i_taped (nI sz9) i_sort i_what i_at (nI en9) i_worth i_faultKind i_faultPlace i_got i_worked i_deliveries i_isPlanned i_bestDone i_bestCost)), (q 0, .inl (E.2.1 3, 800, .inl a_tape))] := hD
        refine lv_iadd hx hb dX12_scan_163 ?_
        refine lv_topi (fun x_13 ex_13 => ?_)
        refine lv_bipush (v := 48) hx hb dX12_scan_164 (by decide) ?_
        refine lv_isub hx hb dX12_scan_166 ?_
        refine lv_topi (fun x_14 ex_14 => ?_)
        refine lv_goto (tgt := 174) hx hb dX12_scan_167 (by decide) ?_
        refine va_put (D := E.1) (ci := 12) (v := .int x_14) (ty := .int) (C := RX12) (T := TX12) (N := 59) hx hb hts inX12 tyX12 tyX12_ok nmX12 hown hK hP hD hS 0 rfl rfl 7 (by decide) fl197 (fun _ h9 => h9) rfl (by decide +kernel) rfl rfl (Nat.le_of_ble_eq_true rfl) dX12_scan_174 (fun H locs hP hD hS => ?_)
        have hP : va_P E.1 vwCl [(h0, .inr (12, mG q i_taped (nI sz9) i_sort i_what i_at (nI en9) x_14 i_faultKind i_faultPlace i_got i_worked i_deliveries i_isPlanned i_bestDone i_bestCost)), (q 0, .inl (E.2.1 3, 800, .inl a_tape))] H := hP
        have hD : va_D A [(h0, .inr (12, mG q i_taped (nI sz9) i_sort i_what i_at (nI en9) x_14 i_faultKind i_faultPlace i_got i_worked i_deliveries i_isPlanned i_bestDone i_bestCost)), (q 0, .inl (E.2.1 3, 800, .inl a_tape))] := hD
        refine lv_iinc (v := (nI (ev + 1))) (lv' := [(3, .int (nI (ev + 1))), (0, .ref h0), (1, .int (nI pv))]) hx hb dX12_scan_177 hl (k := 2) rfl (show nI ev + 1 = nI (ev + 1) from nI_1 ev) (by decide) rfl (fun ls hl => ?_)
        refine lv_goto (tgt := 132) hx hb dX12_scan_180 (by decide) ?_
        exact ih (ev + 1) x_14 _ _ _ (by omega) (by omega) (hP.sub [0, 1] rfl) (hD.sub [0, 1] (by decide) rfl) hS (lv_sub hl [1, 2, 0] rfl)
set_option maxHeartbeats 4000000 in
set_option maxRecDepth 100000 in
theorem c_X12_scan (l : Launch) (E : vE) (h0 : Nat) (q : Nat → Nat) (i_taped : Int32) (i_sort : Int32) (i_what : Int32) (i_at : Int32) (i_worth : Int32) (i_faultKind : Int32) (i_faultPlace : Int32) (i_got : Int32) (i_worked : Int32) (i_deliveries : Int32) (i_isPlanned : Int32) (i_bestDone : Int32) (i_bestCost : Int32) (sz9 : Nat) (en9 : Nat) (a_tape : Nat → Int32) (sz : Nat) (hsz : sz9 ≤ 800) (hen : en9 ≤ sz9) : Met l yX12_scan wsX12_scan ({ frames := 5, cells := 0, slots := 0, locals := 112 }) (pcW E [.ref h0] sz [(h0, .inr (12, mG q i_taped (nI sz9) i_sort i_what i_at (nI en9) i_worth i_faultKind i_faultPlace i_got i_worked i_deliveries i_isPlanned i_bestDone i_bestCost)), (q 0, .inl (E.2.1 3, 800, .inl a_tape))]) (va_Qv (fun (u : Int32 × Int32 × Int32 × Nat × Int32) => match u with | (so2, wh2, at2, en2, wo2) => True) (fun (u : Int32 × Int32 × Int32 × Nat × Int32) (t : State) => match u with | (so2, wh2, at2, en2, wo2) => (en9 ≤ en2 ∧ en2 ≤ sz9) ∧ (so2 = 4 ∨ en9 < en2) ∧ wB E (va_A [(h0, .inr (12, mG q i_taped (nI sz9) i_sort i_what i_at (nI en9) i_worth i_faultKind i_faultPlace i_got i_worked i_deliveries i_isPlanned i_bestDone i_bestCost)), (q 0, .inl (E.2.1 3, 800, .inl a_tape))] sz) [(h0, .inr (12, mG q i_taped (nI sz9) so2 wh2 at2 (nI en2) wo2 i_faultKind i_faultPlace i_got i_worked i_deliveries i_isPlanned i_bestDone i_bestCost)), (q 0, .inl (E.2.1 3, 800, .inl a_tape))] t) (va_A [(h0, .inr (12, mG q i_taped (nI sz9) i_sort i_what i_at (nI en9) i_worth i_faultKind i_faultPlace i_got i_worked i_deliveries i_isPlanned i_bestDone i_bestCost)), (q 0, .inl (E.2.1 3, 800, .inl a_tape))] sz)) 0 0 (va_A [(h0, .inr (12, mG q i_taped (nI sz9) i_sort i_what i_at (nI en9) i_worth i_faultKind i_faultPlace i_got i_worked i_deliveries i_isPlanned i_bestDone i_bestCost)), (q 0, .inl (E.2.1 3, 800, .inl a_tape))] sz) := by
  refine Met.ofW (cc := cX12_scan) (maxL := 4) (ret := none) (by decide) rfl ?_
  intro p e s m args below meth c s₁ B hml hv
  obtain ⟨rfl, hsz, hP, hkn, hD0, hst⟩ := hv
  have hx := B.exec
  have hb := B.bytes
  have hr := B.returns
  have hts := atoms_spec (ws := wsX12_scan) B.pre
  have hown : s.vm.findClass RX12 = some m.cls := findClass_of_methodNamed B.named
  have hlocks := B.notSynchronized
  subst hsz
  have hD := hD0.self (sz := s.heap.size)
  have hK := hkn.1
  have hAO := hkn.2.2.1
  generalize hAe : va_A [(h0, .inr (12, mG q i_taped (nI sz9) i_sort i_what i_at (nI en9) i_worth i_faultKind i_faultPlace i_got i_worked i_deliveries i_isPlanned i_bestDone i_bestCost)), (q 0, .inl (E.2.1 3, 800, .inl a_tape))] s.heap.size = A at hD hst ⊢
  have hA : ∀ q : Nat, s.heap.size ≤ q → A q := fun q h => by rw [← hAe]; exact Or.inr h
  have hS : va_S A s.heap s.heap [] := va_S.rf
  have hP : va_P E.1 vwCl [(h0, .inr (12, mG q i_taped (nI sz9) i_sort i_what i_at (nI en9) i_worth i_faultKind i_faultPlace i_got i_worked i_deliveries i_isPlanned i_bestDone i_bestCost)), (q 0, .inl (E.2.1 3, 800, .inl a_tape))] s.heap := hP
  have hl := lv_entry ([.ref h0]) (n := 4) (Nat.le_of_ble_eq_true rfl)
  rw [lg_entry_eq]
  generalize (lg_sl ([.ref h0]) ++ List.replicate (4 - (lg_sl ([.ref h0])).length) Slot.unset).toArray = ls at hl ⊢
  have hl : lv_has ls 4 [(0, .ref h0)] := hl
  have fl174 := hts (.fieldLink RX12 174 "BoatsHomeModel" "end" "I") (by first | exact List.mem_of_getElem? (i := 1) rfl | decide +kernel)
  have fl177 := hts (.fieldLink RX12 177 "BoatsHomeModel" "at" "I") (by first | exact List.mem_of_getElem? (i := 2) rfl | decide +kernel)
  have fl180 := hts (.fieldLink RX12 180 "BoatsHomeModel" "sort" "I") (by first | exact List.mem_of_getElem? (i := 3) rfl | decide +kernel)
  have fl191 := hts (.fieldLink RX12 191 "BoatsHomeModel" "what" "I") (by first | exact List.mem_of_getElem? (i := 4) rfl | decide +kernel)
  have fl197 := hts (.fieldLink RX12 197 "BoatsHomeModel" "worth" "I") (by first | exact List.mem_of_getElem? (i := 5) rfl | decide +kernel)
  have inX12 : ∀ w ∈ u_ws RX12 TX12 59, w ∈ wsX12_scan := by first | exact fun w h9 => (List.mem_cons_of_mem _ (List.mem_append_right _ h9)) | decide +kernel
  refine lv_aload_n hx hb dX12_scan_0 rfl (lv_at hl 0 rfl) ?_
  refine va_get (D := E.1) (ci := 12) (v := .int (nI en9)) (C := RX12) (T := TX12) (N := 59) hx hb hts inX12 hown hK hP 0 rfl rfl 6 (by decide) fl174 (fun _ h9 => h9) rfl dX12_scan_1 ?_
  refine lv_istore_n (lv' := [(1, .int (nI en9)), (0, .ref h0)]) hx hb dX12_scan_4 rfl hl (by decide) rfl (fun ls hl => ?_)
  have hPl := hP.sub (ws' := [(h0, .inr (12, mG q i_taped (nI sz9) i_sort i_what i_at (nI en9) i_worth i_faultKind i_faultPlace i_got i_worked i_deliveries i_isPlanned i_bestDone i_bestCost)), (q 0, .inl (E.2.1 3, 800, .inl a_tape))]) [0, 1] rfl
  have hDl := hD.sub (ws' := [(h0, .inr (12, mG q i_taped (nI sz9) i_sort i_what i_at (nI en9) i_worth i_faultKind i_faultPlace i_got i_worked i_deliveries i_isPlanned i_bestDone i_bestCost)), (q 0, .inl (E.2.1 3, 800, .inl a_tape))]) [0, 1] (by decide) rfl
  refine lm_scan1 E h0 q i_taped i_sort i_what i_at i_worth i_faultKind i_faultPlace i_got i_worked i_deliveries i_isPlanned i_bestDone i_bestCost sz9 en9 a_tape hx hb hml hown hts hkn hst hA (by omega) (by omega) (fun n_1 H locs ls hpv hP hD hS hl => ?_) (sz9 + 1) en9 _ _ _ (by omega) (by omega) hPl hDl hS (lv_sub hl [1, 0] rfl)
  have hP : va_P E.1 vwCl [(h0, .inr (12, mG q i_taped (nI sz9) i_sort i_what i_at (nI en9) i_worth i_faultKind i_faultPlace i_got i_worked i_deliveries i_isPlanned i_bestDone i_bestCost)), (q 0, .inl (E.2.1 3, 800, .inl a_tape))] H := hP
  have hD : va_D A [(h0, .inr (12, mG q i_taped (nI sz9) i_sort i_what i_at (nI en9) i_worth i_faultKind i_faultPlace i_got i_worked i_deliveries i_isPlanned i_bestDone i_bestCost)), (q 0, .inl (E.2.1 3, 800, .inl a_tape))] := hD
  refine lv_aload_n hx hb dX12_scan_31 rfl (lv_at hl 0 rfl) ?_
  refine lv_iload_n hx hb dX12_scan_32 rfl (lv_at hl 1 rfl) ?_
  refine va_put (D := E.1) (ci := 12) (v := .int (nI n_1)) (ty := .int) (C := RX12) (T := TX12) (N := 59) hx hb hts inX12 tyX12 tyX12_ok nmX12 hown hK hP hD hS 0 rfl rfl 5 (by decide) fl177 (fun _ h9 => h9) rfl (by decide +kernel) rfl rfl (Nat.le_of_ble_eq_true rfl) dX12_scan_33 (fun H locs hP hD hS => ?_)
  have hP : va_P E.1 vwCl [(h0, .inr (12, mG q i_taped (nI sz9) i_sort i_what (nI n_1) (nI en9) i_worth i_faultKind i_faultPlace i_got i_worked i_deliveries i_isPlanned i_bestDone i_bestCost)), (q 0, .inl (E.2.1 3, 800, .inl a_tape))] H := hP
  have hD : va_D A [(h0, .inr (12, mG q i_taped (nI sz9) i_sort i_what (nI n_1) (nI en9) i_worth i_faultKind i_faultPlace i_got i_worked i_deliveries i_isPlanned i_bestDone i_bestCost)), (q 0, .inl (E.2.1 3, 800, .inl a_tape))] := hD
  refine lv_aload_n hx hb dX12_scan_36 rfl (lv_at hl 0 rfl) ?_
  refine lv_iload_n hx hb dX12_scan_37 rfl (lv_at hl 1 rfl) ?_
  have hPc := hP.sub (ws' := [(h0, .inr (12, mG q i_taped (nI sz9) i_sort i_what (nI n_1) (nI en9) i_worth i_faultKind i_faultPlace i_got i_worked i_deliveries i_isPlanned i_bestDone i_bestCost)), (q 0, .inl (E.2.1 3, 800, .inl a_tape))]) [0, 1] rfl
  have hDc := hD.sub (ws' := [(h0, .inr (12, mG q i_taped (nI sz9) i_sort i_what (nI n_1) (nI en9) i_worth i_faultKind i_faultPlace i_got i_worked i_deliveries i_isPlanned i_bestDone i_bestCost)), (q 0, .inl (E.2.1 3, 800, .inl a_tape))]) [0, 1] (by decide) rfl
  have hFc := va_free (wc := [(h0, .inr (12, mG q i_taped (nI sz9) i_sort i_what (nI n_1) (nI en9) i_worth i_faultKind i_faultPlace i_got i_worked i_deliveries i_isPlanned i_bestDone i_bestCost)), (q 0, .inl (E.2.1 3, 800, .inl a_tape))]) hD hS hA [0, 1] rfl
  refine va_calli (va_runV (As := [.int (nI n_1)]) (rest := []) ⟨hx, hb, hml, hown, hts⟩ (c_X12_see l E h0 q i_taped i_sort i_what (nI n_1) (nI en9) i_worth i_faultKind i_faultPlace i_got i_worked i_deliveries i_isPlanned i_bestDone i_bestCost sz9 n_1 a_tape H.size (by omega) (by omega)) (cwV 1 hts gX12_scan_X12_see rfl rfl rfl hdV_X12_see ⟨Nat.le_of_ble_eq_true rfl, Nat.le_of_ble_eq_true rfl⟩) ⟨pcW_blind, va_recv hK hPc (ci := 12) (q0 := 0) rfl rfl, (pcW_pre hPc hkn hDc hst hS hFc)⟩ rfl rfl hl.1 rfl (lv_room (Nat.le_of_ble_eq_true rfl)) dX12_scan_38 ⟨Nat.le_of_ble_eq_true rfl, Nat.le_of_ble_eq_true rfl⟩) hS (fun q _ h => hFc q h) hFc (fun r_2 u t H1 locs ht hvm hw_3 hB hz1 hk1 hS => ?_)
  obtain ⟨hP1, hD1⟩ := hB
  rw [ht] at hP1
  try dsimp only at hw_3
  obtain ⟨hP, hD⟩ := va_join (wr := []) (w1 := [(h0, .inr (12, mG q i_taped (nI sz9) i_sort i_what (nI n_1) (nI en9) i_worth i_faultKind i_faultPlace i_got i_worked i_deliveries i_isPlanned i_bestDone i_bestCost)), (q 0, .inl (E.2.1 3, 800, .inl a_tape))]) hP hD [0, 1] [] rfl rfl (by decide) (by decide) hk1 hFc hP1 hD1
  generalize H1 = H at hP hS ⊢
  have hP : va_P E.1 vwCl [(h0, .inr (12, mG q i_taped (nI sz9) i_sort i_what (nI n_1) (nI en9) i_worth i_faultKind i_faultPlace i_got i_worked i_deliveries i_isPlanned i_bestDone i_bestCost)), (q 0, .inl (E.2.1 3, 800, .inl a_tape))] H := hP
  have hD : va_D A [(h0, .inr (12, mG q i_taped (nI sz9) i_sort i_what (nI n_1) (nI en9) i_worth i_faultKind i_faultPlace i_got i_worked i_deliveries i_isPlanned i_bestDone i_bestCost)), (q 0, .inl (E.2.1 3, 800, .inl a_tape))] := hD
  refine lv_istore_n (lv' := [(2, .int r_2), (0, .ref h0), (1, .int (nI n_1))]) hx hb dX12_scan_41 rfl hl (by decide) rfl (fun ls hl => ?_)
  refine lv_iload_n hx hb dX12_scan_42 rfl (lv_at hl 2 rfl) ?_
  refine lv_iconst (v := 1) hx hb dX12_scan_43 (by decide) ?_
  refine lv_iadd hx hb dX12_scan_44 ?_
  refine lv_topi (fun x_4 ex_4 => ?_)
  obtain rfl : x_4 = nI (n_1 + 1) := ex_4.trans (nI_1 _)
  refine lv_istore_n (lv' := [(3, .int (nI (n_1 + 1))), (2, .int r_2), (0, .ref h0), (1, .int (nI n_1))]) hx hb dX12_scan_45 rfl hl (by decide) rfl (fun ls hl => ?_)
  refine lv_iload_n hx hb dX12_scan_46 rfl (lv_at hl 1 rfl) ?_
  refine lv_iconst (v := (-1)) hx hb dX12_scan_47 (by decide) ?_
  refine lv_icmp_ne (tgt := 61) hx hb dX12_scan_48 (by decide) (fun c_5 => ?_) (fun c_5 => ?_)
  · have hps : n_1 < sz9 := hw_3.resolve_right c_5
    refine lv_iload_n hx hb dX12_scan_61 rfl (lv_at hl 1 rfl) ?_
    have hPc := hP.sub (ws' := []) [] rfl
    have hDc := hD.sub (ws' := []) [] (by decide) rfl
    have hFc := va_free (wc := []) hD hS hA [] rfl
    refine va_calli (va_runS (As := [.int r_2]) (rest := []) ⟨hx, hb, hml, hown, hts⟩ (c_X12_isSmall l E r_2 H.size ) (va_cwS 1 hts gX12_scan_X12_isSmall rfl rfl rfl hdS_X12_isSmall ⟨Nat.le_of_ble_eq_true rfl, Nat.le_of_ble_eq_true rfl⟩) ⟨pcW_blind, (pcW_pre hPc hkn hDc hst hS hFc)⟩ rfl rfl hl.1 rfl (lv_room (Nat.le_of_ble_eq_true rfl)) dX12_scan_62 ⟨Nat.le_of_ble_eq_true rfl, Nat.le_of_ble_eq_true rfl⟩) hS (fun q _ h => hFc q h) hFc (fun r_6 u t H1 locs ht hvm hw_7 hB hz1 hk1 hS => ?_)
    obtain ⟨hP1, hD1⟩ := hB
    rw [ht] at hP1
    try dsimp only at hw_7
    obtain ⟨hP, hD⟩ := va_join (wr := [(h0, .inr (12, mG q i_taped (nI sz9) i_sort i_what (nI n_1) (nI en9) i_worth i_faultKind i_faultPlace i_got i_worked i_deliveries i_isPlanned i_bestDone i_bestCost)), (q 0, .inl (E.2.1 3, 800, .inl a_tape))]) (w1 := []) hP hD [] [0, 1] rfl rfl (by decide) (by decide) hk1 hFc hP1 hD1
    generalize H1 = H at hP hS ⊢
    have hP : va_P E.1 vwCl [(h0, .inr (12, mG q i_taped (nI sz9) i_sort i_what (nI n_1) (nI en9) i_worth i_faultKind i_faultPlace i_got i_worked i_deliveries i_isPlanned i_bestDone i_bestCost)), (q 0, .inl (E.2.1 3, 800, .inl a_tape))] H := hP
    have hD : va_D A [(h0, .inr (12, mG q i_taped (nI sz9) i_sort i_what (nI n_1) (nI en9) i_worth i_faultKind i_faultPlace i_got i_worked i_deliveries i_isPlanned i_bestDone i_bestCost)), (q 0, .inl (E.2.1 3, 800, .inl a_tape))] := hD
    refine lv_if_eq (tgt := 117) hx hb dX12_scan_65 (by decide) (fun c_8 => ?_) (fun c_8 => ?_)
    · have b_9 : inR r_2 97 122 = false := bz hw_7 c_8
      refine lv_iload_n hx hb dX12_scan_117 rfl (lv_at hl 1 rfl) ?_
      have hPc := hP.sub (ws' := []) [] rfl
      have hDc := hD.sub (ws' := []) [] (by decide) rfl
      have hFc := va_free (wc := []) hD hS hA [] rfl
      refine va_calli (va_runS (As := [.int r_2]) (rest := []) ⟨hx, hb, hml, hown, hts⟩ (c_X12_isDigit l E r_2 H.size ) (va_cwS 1 hts gX12_scan_X12_isDigit rfl rfl rfl hdS_X12_isDigit ⟨Nat.le_of_ble_eq_true rfl, Nat.le_of_ble_eq_true rfl⟩) ⟨pcW_blind, (pcW_pre hPc hkn hDc hst hS hFc)⟩ rfl rfl hl.1 rfl (lv_room (Nat.le_of_ble_eq_true rfl)) dX12_scan_118 ⟨Nat.le_of_ble_eq_true rfl, Nat.le_of_ble_eq_true rfl⟩) hS (fun q _ h => hFc q h) hFc (fun r_10 u t H1 locs ht hvm hw_11 hB hz1 hk1 hS => ?_)
      obtain ⟨hP1, hD1⟩ := hB
      rw [ht] at hP1
      try dsimp only at hw_11
      obtain ⟨hP, hD⟩ := va_join (wr := [(h0, .inr (12, mG q i_taped (nI sz9) i_sort i_what (nI n_1) (nI en9) i_worth i_faultKind i_faultPlace i_got i_worked i_deliveries i_isPlanned i_bestDone i_bestCost)), (q 0, .inl (E.2.1 3, 800, .inl a_tape))]) (w1 := []) hP hD [] [0, 1] rfl rfl (by decide) (by decide) hk1 hFc hP1 hD1
      generalize H1 = H at hP hS ⊢
      have hP : va_P E.1 vwCl [(h0, .inr (12, mG q i_taped (nI sz9) i_sort i_what (nI n_1) (nI en9) i_worth i_faultKind i_faultPlace i_got i_worked i_deliveries i_isPlanned i_bestDone i_bestCost)), (q 0, .inl (E.2.1 3, 800, .inl a_tape))] H := hP
      have hD : va_D A [(h0, .inr (12, mG q i_taped (nI sz9) i_sort i_what (nI n_1) (nI en9) i_worth i_faultKind i_faultPlace i_got i_worked i_deliveries i_isPlanned i_bestDone i_bestCost)), (q 0, .inl (E.2.1 3, 800, .inl a_tape))] := hD
      refine lv_if_eq (tgt := 202) hx hb dX12_scan_121 (by decide) (fun c_12 => ?_) (fun c_12 => ?_)
      · have b_13 : inR r_2 48 57 = false := bz hw_11 c_12
        refine lv_aload_n hx hb dX12_scan_202 rfl (lv_at hl 2 rfl) ?_
        refine lv_iload_n hx hb dX12_scan_203 rfl (lv_at hl 1 rfl) ?_
        refine lv_bipush (v := 59) hx hb dX12_scan_204 (by decide) ?_
        refine lv_icmp_ne (tgt := 213) hx hb dX12_scan_206 (by decide) (fun c_14 => ?_) (fun c_14 => ?_)
        · refine lv_iconst (v := 0) hx hb dX12_scan_213 (by decide) ?_
          refine va_put (D := E.1) (ci := 12) (v := .int 0) (ty := .int) (C := RX12) (T := TX12) (N := 59) hx hb hts inX12 tyX12 tyX12_ok nmX12 hown hK hP hD hS 0 rfl rfl 3 (by decide) fl180 (fun _ h9 => h9) rfl (by decide +kernel) rfl rfl (Nat.le_of_ble_eq_true rfl) dX12_scan_214 (fun H locs hP hD hS => ?_)
          have hP : va_P E.1 vwCl [(h0, .inr (12, mG q i_taped (nI sz9) 0 i_what (nI n_1) (nI en9) i_worth i_faultKind i_faultPlace i_got i_worked i_deliveries i_isPlanned i_bestDone i_bestCost)), (q 0, .inl (E.2.1 3, 800, .inl a_tape))] H := hP
          have hD : va_D A [(h0, .inr (12, mG q i_taped (nI sz9) 0 i_what (nI n_1) (nI en9) i_worth i_faultKind i_faultPlace i_got i_worked i_deliveries i_isPlanned i_bestDone i_bestCost)), (q 0, .inl (E.2.1 3, 800, .inl a_tape))] := hD
          refine lv_aload_n hx hb dX12_scan_217 rfl (lv_at hl 2 rfl) ?_
          refine lv_iload_n hx hb dX12_scan_218 rfl (lv_at hl 0 rfl) ?_
          refine va_put (D := E.1) (ci := 12) (v := .int (nI (n_1 + 1))) (ty := .int) (C := RX12) (T := TX12) (N := 59) hx hb hts inX12 tyX12 tyX12_ok nmX12 hown hK hP hD hS 0 rfl rfl 6 (by decide) fl174 (fun _ h9 => h9) rfl (by decide +kernel) rfl rfl (Nat.le_of_ble_eq_true rfl) dX12_scan_219 (fun H locs hP hD hS => ?_)
          have hP : va_P E.1 vwCl [(h0, .inr (12, mG q i_taped (nI sz9) 0 i_what (nI n_1) (nI (n_1 + 1)) i_worth i_faultKind i_faultPlace i_got i_worked i_deliveries i_isPlanned i_bestDone i_bestCost)), (q 0, .inl (E.2.1 3, 800, .inl a_tape))] H := hP
          have hD : va_D A [(h0, .inr (12, mG q i_taped (nI sz9) 0 i_what (nI n_1) (nI (n_1 + 1)) i_worth i_faultKind i_faultPlace i_got i_worked i_deliveries i_isPlanned i_bestDone i_bestCost)), (q 0, .inl (E.2.1 3, 800, .inl a_tape))] := hD
          have hP9 := hP.sub (ws' := [(h0, .inr (12, mG q i_taped (nI sz9) 0 i_what (nI n_1) (nI (n_1 + 1)) i_worth i_faultKind i_faultPlace i_got i_worked i_deliveries i_isPlanned i_bestDone i_bestCost)), (q 0, .inl (E.2.1 3, 800, .inl a_tape))]) [0, 1] rfl
          have hD9 := hD.sub (ws' := [(h0, .inr (12, mG q i_taped (nI sz9) 0 i_what (nI n_1) (nI (n_1 + 1)) i_worth i_faultKind i_faultPlace i_got i_worked i_deliveries i_isPlanned i_bestDone i_bestCost)), (q 0, .inl (E.2.1 3, 800, .inl a_tape))]) [0, 1] (by decide) rfl
          exact W.vret hx hb hr (fun t ht hW => ⟨⟨(0, i_what, nI n_1, (n_1 + 1), i_worth), rfl, trivial, (by omega), (Or.inr (by omega)), by rw [ht]; exact hP9, hD9⟩, hS.F ht⟩) hS.2.2 dX12_scan_222
        · refine lv_iconst (v := 3) hx hb dX12_scan_209 (by decide) ?_
          refine lv_goto (tgt := 214) hx hb dX12_scan_210 (by decide) ?_
          refine va_put (D := E.1) (ci := 12) (v := .int 3) (ty := .int) (C := RX12) (T := TX12) (N := 59) hx hb hts inX12 tyX12 tyX12_ok nmX12 hown hK hP hD hS 0 rfl rfl 3 (by decide) fl180 (fun _ h9 => h9) rfl (by decide +kernel) rfl rfl (Nat.le_of_ble_eq_true rfl) dX12_scan_214 (fun H locs hP hD hS => ?_)
          have hP : va_P E.1 vwCl [(h0, .inr (12, mG q i_taped (nI sz9) 3 i_what (nI n_1) (nI en9) i_worth i_faultKind i_faultPlace i_got i_worked i_deliveries i_isPlanned i_bestDone i_bestCost)), (q 0, .inl (E.2.1 3, 800, .inl a_tape))] H := hP
          have hD : va_D A [(h0, .inr (12, mG q i_taped (nI sz9) 3 i_what (nI n_1) (nI en9) i_worth i_faultKind i_faultPlace i_got i_worked i_deliveries i_isPlanned i_bestDone i_bestCost)), (q 0, .inl (E.2.1 3, 800, .inl a_tape))] := hD
          refine lv_aload_n hx hb dX12_scan_217 rfl (lv_at hl 2 rfl) ?_
          refine lv_iload_n hx hb dX12_scan_218 rfl (lv_at hl 0 rfl) ?_
          refine va_put (D := E.1) (ci := 12) (v := .int (nI (n_1 + 1))) (ty := .int) (C := RX12) (T := TX12) (N := 59) hx hb hts inX12 tyX12 tyX12_ok nmX12 hown hK hP hD hS 0 rfl rfl 6 (by decide) fl174 (fun _ h9 => h9) rfl (by decide +kernel) rfl rfl (Nat.le_of_ble_eq_true rfl) dX12_scan_219 (fun H locs hP hD hS => ?_)
          have hP : va_P E.1 vwCl [(h0, .inr (12, mG q i_taped (nI sz9) 3 i_what (nI n_1) (nI (n_1 + 1)) i_worth i_faultKind i_faultPlace i_got i_worked i_deliveries i_isPlanned i_bestDone i_bestCost)), (q 0, .inl (E.2.1 3, 800, .inl a_tape))] H := hP
          have hD : va_D A [(h0, .inr (12, mG q i_taped (nI sz9) 3 i_what (nI n_1) (nI (n_1 + 1)) i_worth i_faultKind i_faultPlace i_got i_worked i_deliveries i_isPlanned i_bestDone i_bestCost)), (q 0, .inl (E.2.1 3, 800, .inl a_tape))] := hD
          have hP9 := hP.sub (ws' := [(h0, .inr (12, mG q i_taped (nI sz9) 3 i_what (nI n_1) (nI (n_1 + 1)) i_worth i_faultKind i_faultPlace i_got i_worked i_deliveries i_isPlanned i_bestDone i_bestCost)), (q 0, .inl (E.2.1 3, 800, .inl a_tape))]) [0, 1] rfl
          have hD9 := hD.sub (ws' := [(h0, .inr (12, mG q i_taped (nI sz9) 3 i_what (nI n_1) (nI (n_1 + 1)) i_worth i_faultKind i_faultPlace i_got i_worked i_deliveries i_isPlanned i_bestDone i_bestCost)), (q 0, .inl (E.2.1 3, 800, .inl a_tape))]) [0, 1] (by decide) rfl
          exact W.vret hx hb hr (fun t ht hW => ⟨⟨(3, i_what, nI n_1, (n_1 + 1), i_worth), rfl, trivial, (by omega), (Or.inr (by omega)), by rw [ht]; exact hP9, hD9⟩, hS.F ht⟩) hS.2.2 dX12_scan_222
      · have b_15 : inR r_2 48 57 = true := bn hw_11 c_12
        refine lv_aload_n hx hb dX12_scan_124 rfl (lv_at hl 2 rfl) ?_
        refine lv_iload_n hx hb dX12_scan_125 rfl (lv_at hl 1 rfl) ?_
        refine lv_bipush (v := 48) hx hb dX12_scan_126 (by decide) ?_
        refine lv_isub hx hb dX12_scan_128 ?_
        refine lv_topi (fun x_16 ex_16 => ?_)
        refine va_put (D := E.1) (ci := 12) (v := .int x_16) (ty := .int) (C := RX12) (T := TX12) (N := 59) hx hb hts inX12 tyX12 tyX12_ok nmX12 hown hK hP hD hS 0 rfl rfl 7 (by decide) fl197 (fun _ h9 => h9) rfl (by decide +kernel) rfl rfl (Nat.le_of_ble_eq_true rfl) dX12_scan_129 (fun H locs hP hD hS => ?_)
        have hP : va_P E.1 vwCl [(h0, .inr (12, mG q i_taped (nI sz9) i_sort i_what (nI n_1) (nI en9) x_16 i_faultKind i_faultPlace i_got i_worked i_deliveries i_isPlanned i_bestDone i_bestCost)), (q 0, .inl (E.2.1 3, 800, .inl a_tape))] H := hP
        have hD : va_D A [(h0, .inr (12, mG q i_taped (nI sz9) i_sort i_what (nI n_1) (nI en9) x_16 i_faultKind i_faultPlace i_got i_worked i_deliveries i_isPlanned i_bestDone i_bestCost)), (q 0, .inl (E.2.1 3, 800, .inl a_tape))] := hD
        have hPl := hP.sub (ws' := [(h0, .inr (12, mG q i_taped (nI sz9) i_sort i_what (nI n_1) (nI en9) x_16 i_faultKind i_faultPlace i_got i_worked i_deliveries i_isPlanned i_bestDone i_bestCost)), (q 0, .inl (E.2.1 3, 800, .inl a_tape))]) [0, 1] rfl
        have hDl := hD.sub (ws' := [(h0, .inr (12, mG q i_taped (nI sz9) i_sort i_what (nI n_1) (nI en9) x_16 i_faultKind i_faultPlace i_got i_worked i_deliveries i_isPlanned i_bestDone i_bestCost)), (q 0, .inl (E.2.1 3, 800, .inl a_tape))]) [0, 1] (by decide) rfl
        refine lm_scan3 E h0 q i_taped i_sort i_what (nI n_1) i_faultKind i_faultPlace i_got i_worked i_deliveries i_isPlanned i_bestDone i_bestCost sz9 en9 n_1 a_tape hx hb hml hown hts hkn hst hA (by omega) (by omega) (by omega) (fun n_17 n_18 H locs ls hev hP hD hS hl => ?_) (sz9 + 1) (n_1 + 1) x_16 _ _ _ (by omega) (by omega) hPl hDl hS (lv_sub hl [2, 3, 0] rfl)
        have hP : va_P E.1 vwCl [(h0, .inr (12, mG q i_taped (nI sz9) i_sort i_what (nI n_1) (nI en9) n_18 i_faultKind i_faultPlace i_got i_worked i_deliveries i_isPlanned i_bestDone i_bestCost)), (q 0, .inl (E.2.1 3, 800, .inl a_tape))] H := hP
        have hD : va_D A [(h0, .inr (12, mG q i_taped (nI sz9) i_sort i_what (nI n_1) (nI en9) n_18 i_faultKind i_faultPlace i_got i_worked i_deliveries i_isPlanned i_bestDone i_bestCost)), (q 0, .inl (E.2.1 3, 800, .inl a_tape))] := hD
        refine lv_aload_n hx hb dX12_scan_183 rfl (lv_at hl 0 rfl) ?_
        refine lv_iload_n hx hb dX12_scan_184 rfl (lv_at hl 2 rfl) ?_
        refine lv_iload_n hx hb dX12_scan_185 rfl (lv_at hl 1 rfl) ?_
        refine lv_isub hx hb dX12_scan_186 ?_
        refine lv_topi (fun x_19 ex_19 => ?_)
        obtain rfl : x_19 = nI (n_17 - n_1) := ex_19.trans (pk_sub (a := n_17) (b := n_1) (by omega))
        refine lv_iconst (v := 4) hx hb dX12_scan_187 (by decide) ?_
        refine lv_icmp_le (tgt := 195) hx hb dX12_scan_188 (by decide) (fun c_20 => ?_) (fun c_20 => ?_)
        · refine lv_iconst (v := 2) hx hb dX12_scan_195 (by decide) ?_
          refine va_put (D := E.1) (ci := 12) (v := .int 2) (ty := .int) (C := RX12) (T := TX12) (N := 59) hx hb hts inX12 tyX12 tyX12_ok nmX12 hown hK hP hD hS 0 rfl rfl 3 (by decide) fl180 (fun _ h9 => h9) rfl (by decide +kernel) rfl rfl (Nat.le_of_ble_eq_true rfl) dX12_scan_196 (fun H locs hP hD hS => ?_)
          have hP : va_P E.1 vwCl [(h0, .inr (12, mG q i_taped (nI sz9) 2 i_what (nI n_1) (nI en9) n_18 i_faultKind i_faultPlace i_got i_worked i_deliveries i_isPlanned i_bestDone i_bestCost)), (q 0, .inl (E.2.1 3, 800, .inl a_tape))] H := hP
          have hD : va_D A [(h0, .inr (12, mG q i_taped (nI sz9) 2 i_what (nI n_1) (nI en9) n_18 i_faultKind i_faultPlace i_got i_worked i_deliveries i_isPlanned i_bestDone i_bestCost)), (q 0, .inl (E.2.1 3, 800, .inl a_tape))] := hD
          refine lv_goto (tgt := 217) hx hb dX12_scan_199 (by decide) ?_
          refine lv_aload_n hx hb dX12_scan_217 rfl (lv_at hl 0 rfl) ?_
          refine lv_iload_n hx hb dX12_scan_218 rfl (lv_at hl 2 rfl) ?_
          refine va_put (D := E.1) (ci := 12) (v := .int (nI n_17)) (ty := .int) (C := RX12) (T := TX12) (N := 59) hx hb hts inX12 tyX12 tyX12_ok nmX12 hown hK hP hD hS 0 rfl rfl 6 (by decide) fl174 (fun _ h9 => h9) rfl (by decide +kernel) rfl rfl (Nat.le_of_ble_eq_true rfl) dX12_scan_219 (fun H locs hP hD hS => ?_)
          have hP : va_P E.1 vwCl [(h0, .inr (12, mG q i_taped (nI sz9) 2 i_what (nI n_1) (nI n_17) n_18 i_faultKind i_faultPlace i_got i_worked i_deliveries i_isPlanned i_bestDone i_bestCost)), (q 0, .inl (E.2.1 3, 800, .inl a_tape))] H := hP
          have hD : va_D A [(h0, .inr (12, mG q i_taped (nI sz9) 2 i_what (nI n_1) (nI n_17) n_18 i_faultKind i_faultPlace i_got i_worked i_deliveries i_isPlanned i_bestDone i_bestCost)), (q 0, .inl (E.2.1 3, 800, .inl a_tape))] := hD
          have hP9 := hP.sub (ws' := [(h0, .inr (12, mG q i_taped (nI sz9) 2 i_what (nI n_1) (nI n_17) n_18 i_faultKind i_faultPlace i_got i_worked i_deliveries i_isPlanned i_bestDone i_bestCost)), (q 0, .inl (E.2.1 3, 800, .inl a_tape))]) [0, 1] rfl
          have hD9 := hD.sub (ws' := [(h0, .inr (12, mG q i_taped (nI sz9) 2 i_what (nI n_1) (nI n_17) n_18 i_faultKind i_faultPlace i_got i_worked i_deliveries i_isPlanned i_bestDone i_bestCost)), (q 0, .inl (E.2.1 3, 800, .inl a_tape))]) [0, 1] (by decide) rfl
          exact W.vret hx hb hr (fun t ht hW => ⟨⟨(2, i_what, nI n_1, n_17, n_18), rfl, trivial, (by omega), (Or.inr (by omega)), by rw [ht]; exact hP9, hD9⟩, hS.F ht⟩) hS.2.2 dX12_scan_222
        · refine lv_iconst (v := 0) hx hb dX12_scan_191 (by decide) ?_
          refine lv_goto (tgt := 196) hx hb dX12_scan_192 (by decide) ?_
          refine va_put (D := E.1) (ci := 12) (v := .int 0) (ty := .int) (C := RX12) (T := TX12) (N := 59) hx hb hts inX12 tyX12 tyX12_ok nmX12 hown hK hP hD hS 0 rfl rfl 3 (by decide) fl180 (fun _ h9 => h9) rfl (by decide +kernel) rfl rfl (Nat.le_of_ble_eq_true rfl) dX12_scan_196 (fun H locs hP hD hS => ?_)
          have hP : va_P E.1 vwCl [(h0, .inr (12, mG q i_taped (nI sz9) 0 i_what (nI n_1) (nI en9) n_18 i_faultKind i_faultPlace i_got i_worked i_deliveries i_isPlanned i_bestDone i_bestCost)), (q 0, .inl (E.2.1 3, 800, .inl a_tape))] H := hP
          have hD : va_D A [(h0, .inr (12, mG q i_taped (nI sz9) 0 i_what (nI n_1) (nI en9) n_18 i_faultKind i_faultPlace i_got i_worked i_deliveries i_isPlanned i_bestDone i_bestCost)), (q 0, .inl (E.2.1 3, 800, .inl a_tape))] := hD
          refine lv_goto (tgt := 217) hx hb dX12_scan_199 (by decide) ?_
          refine lv_aload_n hx hb dX12_scan_217 rfl (lv_at hl 0 rfl) ?_
          refine lv_iload_n hx hb dX12_scan_218 rfl (lv_at hl 2 rfl) ?_
          refine va_put (D := E.1) (ci := 12) (v := .int (nI n_17)) (ty := .int) (C := RX12) (T := TX12) (N := 59) hx hb hts inX12 tyX12 tyX12_ok nmX12 hown hK hP hD hS 0 rfl rfl 6 (by decide) fl174 (fun _ h9 => h9) rfl (by decide +kernel) rfl rfl (Nat.le_of_ble_eq_true rfl) dX12_scan_219 (fun H locs hP hD hS => ?_)
          have hP : va_P E.1 vwCl [(h0, .inr (12, mG q i_taped (nI sz9) 0 i_what (nI n_1) (nI n_17) n_18 i_faultKind i_faultPlace i_got i_worked i_deliveries i_isPlanned i_bestDone i_bestCost)), (q 0, .inl (E.2.1 3, 800, .inl a_tape))] H := hP
          have hD : va_D A [(h0, .inr (12, mG q i_taped (nI sz9) 0 i_what (nI n_1) (nI n_17) n_18 i_faultKind i_faultPlace i_got i_worked i_deliveries i_isPlanned i_bestDone i_bestCost)), (q 0, .inl (E.2.1 3, 800, .inl a_tape))] := hD
          have hP9 := hP.sub (ws' := [(h0, .inr (12, mG q i_taped (nI sz9) 0 i_what (nI n_1) (nI n_17) n_18 i_faultKind i_faultPlace i_got i_worked i_deliveries i_isPlanned i_bestDone i_bestCost)), (q 0, .inl (E.2.1 3, 800, .inl a_tape))]) [0, 1] rfl
          have hD9 := hD.sub (ws' := [(h0, .inr (12, mG q i_taped (nI sz9) 0 i_what (nI n_1) (nI n_17) n_18 i_faultKind i_faultPlace i_got i_worked i_deliveries i_isPlanned i_bestDone i_bestCost)), (q 0, .inl (E.2.1 3, 800, .inl a_tape))]) [0, 1] (by decide) rfl
          exact W.vret hx hb hr (fun t ht hW => ⟨⟨(0, i_what, nI n_1, n_17, n_18), rfl, trivial, (by omega), (Or.inr (by omega)), by rw [ht]; exact hP9, hD9⟩, hS.F ht⟩) hS.2.2 dX12_scan_222
    · have b_21 : inR r_2 97 122 = true := bn hw_7 c_8
      have hPl := hP.sub (ws' := [(h0, .inr (12, mG q i_taped (nI sz9) i_sort i_what (nI n_1) (nI en9) i_worth i_faultKind i_faultPlace i_got i_worked i_deliveries i_isPlanned i_bestDone i_bestCost)), (q 0, .inl (E.2.1 3, 800, .inl a_tape))]) [0, 1] rfl
      have hDl := hD.sub (ws' := [(h0, .inr (12, mG q i_taped (nI sz9) i_sort i_what (nI n_1) (nI en9) i_worth i_faultKind i_faultPlace i_got i_worked i_deliveries i_isPlanned i_bestDone i_bestCost)), (q 0, .inl (E.2.1 3, 800, .inl a_tape))]) [0, 1] (by decide) rfl
      refine lm_scan2 E h0 q i_taped i_sort i_what (nI n_1) i_worth i_faultKind i_faultPlace i_got i_worked i_deliveries i_isPlanned i_bestDone i_bestCost sz9 en9 n_1 a_tape hx hb hml hown hts hkn hst hA (by omega) (by omega) (by omega) (fun n_22 H locs ls hev hP hD hS hl => ?_) (sz9 + 1) (n_1 + 1) _ _ _ (by omega) (by omega) hPl hDl hS (lv_sub hl [2, 3, 0] rfl)
      have hP : va_P E.1 vwCl [(h0, .inr (12, mG q i_taped (nI sz9) i_sort i_what (nI n_1) (nI en9) i_worth i_faultKind i_faultPlace i_got i_worked i_deliveries i_isPlanned i_bestDone i_bestCost)), (q 0, .inl (E.2.1 3, 800, .inl a_tape))] H := hP
      have hD : va_D A [(h0, .inr (12, mG q i_taped (nI sz9) i_sort i_what (nI n_1) (nI en9) i_worth i_faultKind i_faultPlace i_got i_worked i_deliveries i_isPlanned i_bestDone i_bestCost)), (q 0, .inl (E.2.1 3, 800, .inl a_tape))] := hD
      refine lv_aload_n hx hb dX12_scan_85 rfl (lv_at hl 0 rfl) ?_
      refine lv_aload_n hx hb dX12_scan_86 rfl (lv_at hl 0 rfl) ?_
      refine lv_iload_n hx hb dX12_scan_87 rfl (lv_at hl 1 rfl) ?_
      refine lv_iload_n hx hb dX12_scan_88 rfl (lv_at hl 2 rfl) ?_
      refine lv_iload_n hx hb dX12_scan_89 rfl (lv_at hl 1 rfl) ?_
      refine lv_isub hx hb dX12_scan_90 ?_
      refine lv_topi (fun x_23 ex_23 => ?_)
      obtain rfl : x_23 = nI (n_22 - n_1) := ex_23.trans (pk_sub (a := n_22) (b := n_1) (by omega))
      have hPc := hP.sub (ws' := [(h0, .inr (12, mG q i_taped (nI sz9) i_sort i_what (nI n_1) (nI en9) i_worth i_faultKind i_faultPlace i_got i_worked i_deliveries i_isPlanned i_bestDone i_bestCost)), (q 0, .inl (E.2.1 3, 800, .inl a_tape))]) [0, 1] rfl
      have hDc := hD.sub (ws' := [(h0, .inr (12, mG q i_taped (nI sz9) i_sort i_what (nI n_1) (nI en9) i_worth i_faultKind i_faultPlace i_got i_worked i_deliveries i_isPlanned i_bestDone i_bestCost)), (q 0, .inl (E.2.1 3, 800, .inl a_tape))]) [0, 1] (by decide) rfl
      have hFc := va_free (wc := [(h0, .inr (12, mG q i_taped (nI sz9) i_sort i_what (nI n_1) (nI en9) i_worth i_faultKind i_faultPlace i_got i_worked i_deliveries i_isPlanned i_bestDone i_bestCost)), (q 0, .inl (E.2.1 3, 800, .inl a_tape))]) hD hS hA [0, 1] rfl
      refine va_calli (va_runV (As := [.int (nI n_1), .int (nI (n_22 - n_1))]) (rest := [.ref h0]) ⟨hx, hb, hml, hown, hts⟩ (c_X12_keyAt l E h0 q i_taped i_sort i_what (nI n_1) (nI en9) i_worth i_faultKind i_faultPlace i_got i_worked i_deliveries i_isPlanned i_bestDone i_bestCost sz9 n_1 (n_22 - n_1) a_tape H.size (by omega) (by omega) (by omega)) (cwV 2 hts gX12_scan_X12_keyAt rfl rfl rfl hdV_X12_keyAt ⟨Nat.le_of_ble_eq_true rfl, Nat.le_of_ble_eq_true rfl⟩) ⟨pcW_blind, va_recv hK hPc (ci := 12) (q0 := 0) rfl rfl, (pcW_pre hPc hkn hDc hst hS hFc)⟩ rfl rfl hl.1 rfl (lv_room (Nat.le_of_ble_eq_true rfl)) dX12_scan_91 ⟨Nat.le_of_ble_eq_true rfl, Nat.le_of_ble_eq_true rfl⟩) hS (fun q _ h => hFc q h) hFc (fun r_24 u t H1 locs ht hvm hw_25 hB hz1 hk1 hS => ?_)
      obtain ⟨hP1, hD1⟩ := hB
      rw [ht] at hP1
      try dsimp only at hw_25
      obtain ⟨hP, hD⟩ := va_join (wr := []) (w1 := [(h0, .inr (12, mG q i_taped (nI sz9) i_sort i_what (nI n_1) (nI en9) i_worth i_faultKind i_faultPlace i_got i_worked i_deliveries i_isPlanned i_bestDone i_bestCost)), (q 0, .inl (E.2.1 3, 800, .inl a_tape))]) hP hD [0, 1] [] rfl rfl (by decide) (by decide) hk1 hFc hP1 hD1
      generalize H1 = H at hP hS ⊢
      have hP : va_P E.1 vwCl [(h0, .inr (12, mG q i_taped (nI sz9) i_sort i_what (nI n_1) (nI en9) i_worth i_faultKind i_faultPlace i_got i_worked i_deliveries i_isPlanned i_bestDone i_bestCost)), (q 0, .inl (E.2.1 3, 800, .inl a_tape))] H := hP
      have hD : va_D A [(h0, .inr (12, mG q i_taped (nI sz9) i_sort i_what (nI n_1) (nI en9) i_worth i_faultKind i_faultPlace i_got i_worked i_deliveries i_isPlanned i_bestDone i_bestCost)), (q 0, .inl (E.2.1 3, 800, .inl a_tape))] := hD
      refine va_put (D := E.1) (ci := 12) (v := .int r_24) (ty := .int) (C := RX12) (T := TX12) (N := 59) hx hb hts inX12 tyX12 tyX12_ok nmX12 hown hK hP hD hS 0 rfl rfl 4 (by decide) fl191 (fun _ h9 => h9) rfl (by decide +kernel) rfl rfl (Nat.le_of_ble_eq_true rfl) dX12_scan_94 (fun H locs hP hD hS => ?_)
      have hP : va_P E.1 vwCl [(h0, .inr (12, mG q i_taped (nI sz9) i_sort r_24 (nI n_1) (nI en9) i_worth i_faultKind i_faultPlace i_got i_worked i_deliveries i_isPlanned i_bestDone i_bestCost)), (q 0, .inl (E.2.1 3, 800, .inl a_tape))] H := hP
      have hD : va_D A [(h0, .inr (12, mG q i_taped (nI sz9) i_sort r_24 (nI n_1) (nI en9) i_worth i_faultKind i_faultPlace i_got i_worked i_deliveries i_isPlanned i_bestDone i_bestCost)), (q 0, .inl (E.2.1 3, 800, .inl a_tape))] := hD
      refine lv_aload_n hx hb dX12_scan_97 rfl (lv_at hl 0 rfl) ?_
      refine lv_aload_n hx hb dX12_scan_98 rfl (lv_at hl 0 rfl) ?_
      refine va_get (D := E.1) (ci := 12) (v := .int r_24) (C := RX12) (T := TX12) (N := 59) hx hb hts inX12 hown hK hP 0 rfl rfl 4 (by decide) fl191 (fun _ h9 => h9) rfl dX12_scan_99 ?_
      refine lv_iconst (v := (-1)) hx hb dX12_scan_102 (by decide) ?_
      refine lv_icmp_ne (tgt := 110) hx hb dX12_scan_103 (by decide) (fun c_26 => ?_) (fun c_26 => ?_)
      · refine lv_iconst (v := 1) hx hb dX12_scan_110 (by decide) ?_
        refine va_put (D := E.1) (ci := 12) (v := .int 1) (ty := .int) (C := RX12) (T := TX12) (N := 59) hx hb hts inX12 tyX12 tyX12_ok nmX12 hown hK hP hD hS 0 rfl rfl 3 (by decide) fl180 (fun _ h9 => h9) rfl (by decide +kernel) rfl rfl (Nat.le_of_ble_eq_true rfl) dX12_scan_111 (fun H locs hP hD hS => ?_)
        have hP : va_P E.1 vwCl [(h0, .inr (12, mG q i_taped (nI sz9) 1 r_24 (nI n_1) (nI en9) i_worth i_faultKind i_faultPlace i_got i_worked i_deliveries i_isPlanned i_bestDone i_bestCost)), (q 0, .inl (E.2.1 3, 800, .inl a_tape))] H := hP
        have hD : va_D A [(h0, .inr (12, mG q i_taped (nI sz9) 1 r_24 (nI n_1) (nI en9) i_worth i_faultKind i_faultPlace i_got i_worked i_deliveries i_isPlanned i_bestDone i_bestCost)), (q 0, .inl (E.2.1 3, 800, .inl a_tape))] := hD
        refine lv_goto (tgt := 217) hx hb dX12_scan_114 (by decide) ?_
        refine lv_aload_n hx hb dX12_scan_217 rfl (lv_at hl 0 rfl) ?_
        refine lv_iload_n hx hb dX12_scan_218 rfl (lv_at hl 2 rfl) ?_
        refine va_put (D := E.1) (ci := 12) (v := .int (nI n_22)) (ty := .int) (C := RX12) (T := TX12) (N := 59) hx hb hts inX12 tyX12 tyX12_ok nmX12 hown hK hP hD hS 0 rfl rfl 6 (by decide) fl174 (fun _ h9 => h9) rfl (by decide +kernel) rfl rfl (Nat.le_of_ble_eq_true rfl) dX12_scan_219 (fun H locs hP hD hS => ?_)
        have hP : va_P E.1 vwCl [(h0, .inr (12, mG q i_taped (nI sz9) 1 r_24 (nI n_1) (nI n_22) i_worth i_faultKind i_faultPlace i_got i_worked i_deliveries i_isPlanned i_bestDone i_bestCost)), (q 0, .inl (E.2.1 3, 800, .inl a_tape))] H := hP
        have hD : va_D A [(h0, .inr (12, mG q i_taped (nI sz9) 1 r_24 (nI n_1) (nI n_22) i_worth i_faultKind i_faultPlace i_got i_worked i_deliveries i_isPlanned i_bestDone i_bestCost)), (q 0, .inl (E.2.1 3, 800, .inl a_tape))] := hD
        have hP9 := hP.sub (ws' := [(h0, .inr (12, mG q i_taped (nI sz9) 1 r_24 (nI n_1) (nI n_22) i_worth i_faultKind i_faultPlace i_got i_worked i_deliveries i_isPlanned i_bestDone i_bestCost)), (q 0, .inl (E.2.1 3, 800, .inl a_tape))]) [0, 1] rfl
        have hD9 := hD.sub (ws' := [(h0, .inr (12, mG q i_taped (nI sz9) 1 r_24 (nI n_1) (nI n_22) i_worth i_faultKind i_faultPlace i_got i_worked i_deliveries i_isPlanned i_bestDone i_bestCost)), (q 0, .inl (E.2.1 3, 800, .inl a_tape))]) [0, 1] (by decide) rfl
        exact W.vret hx hb hr (fun t ht hW => ⟨⟨(1, r_24, nI n_1, n_22, i_worth), rfl, trivial, (by omega), (Or.inr (by omega)), by rw [ht]; exact hP9, hD9⟩, hS.F ht⟩) hS.2.2 dX12_scan_222
      · refine lv_iconst (v := 0) hx hb dX12_scan_106 (by decide) ?_
        refine lv_goto (tgt := 111) hx hb dX12_scan_107 (by decide) ?_
        refine va_put (D := E.1) (ci := 12) (v := .int 0) (ty := .int) (C := RX12) (T := TX12) (N := 59) hx hb hts inX12 tyX12 tyX12_ok nmX12 hown hK hP hD hS 0 rfl rfl 3 (by decide) fl180 (fun _ h9 => h9) rfl (by decide +kernel) rfl rfl (Nat.le_of_ble_eq_true rfl) dX12_scan_111 (fun H locs hP hD hS => ?_)
        have hP : va_P E.1 vwCl [(h0, .inr (12, mG q i_taped (nI sz9) 0 r_24 (nI n_1) (nI en9) i_worth i_faultKind i_faultPlace i_got i_worked i_deliveries i_isPlanned i_bestDone i_bestCost)), (q 0, .inl (E.2.1 3, 800, .inl a_tape))] H := hP
        have hD : va_D A [(h0, .inr (12, mG q i_taped (nI sz9) 0 r_24 (nI n_1) (nI en9) i_worth i_faultKind i_faultPlace i_got i_worked i_deliveries i_isPlanned i_bestDone i_bestCost)), (q 0, .inl (E.2.1 3, 800, .inl a_tape))] := hD
        refine lv_goto (tgt := 217) hx hb dX12_scan_114 (by decide) ?_
        refine lv_aload_n hx hb dX12_scan_217 rfl (lv_at hl 0 rfl) ?_
        refine lv_iload_n hx hb dX12_scan_218 rfl (lv_at hl 2 rfl) ?_
        refine va_put (D := E.1) (ci := 12) (v := .int (nI n_22)) (ty := .int) (C := RX12) (T := TX12) (N := 59) hx hb hts inX12 tyX12 tyX12_ok nmX12 hown hK hP hD hS 0 rfl rfl 6 (by decide) fl174 (fun _ h9 => h9) rfl (by decide +kernel) rfl rfl (Nat.le_of_ble_eq_true rfl) dX12_scan_219 (fun H locs hP hD hS => ?_)
        have hP : va_P E.1 vwCl [(h0, .inr (12, mG q i_taped (nI sz9) 0 r_24 (nI n_1) (nI n_22) i_worth i_faultKind i_faultPlace i_got i_worked i_deliveries i_isPlanned i_bestDone i_bestCost)), (q 0, .inl (E.2.1 3, 800, .inl a_tape))] H := hP
        have hD : va_D A [(h0, .inr (12, mG q i_taped (nI sz9) 0 r_24 (nI n_1) (nI n_22) i_worth i_faultKind i_faultPlace i_got i_worked i_deliveries i_isPlanned i_bestDone i_bestCost)), (q 0, .inl (E.2.1 3, 800, .inl a_tape))] := hD
        have hP9 := hP.sub (ws' := [(h0, .inr (12, mG q i_taped (nI sz9) 0 r_24 (nI n_1) (nI n_22) i_worth i_faultKind i_faultPlace i_got i_worked i_deliveries i_isPlanned i_bestDone i_bestCost)), (q 0, .inl (E.2.1 3, 800, .inl a_tape))]) [0, 1] rfl
        have hD9 := hD.sub (ws' := [(h0, .inr (12, mG q i_taped (nI sz9) 0 r_24 (nI n_1) (nI n_22) i_worth i_faultKind i_faultPlace i_got i_worked i_deliveries i_isPlanned i_bestDone i_bestCost)), (q 0, .inl (E.2.1 3, 800, .inl a_tape))]) [0, 1] (by decide) rfl
        exact W.vret hx hb hr (fun t ht hW => ⟨⟨(0, r_24, nI n_1, n_22, i_worth), rfl, trivial, (by omega), (Or.inr (by omega)), by rw [ht]; exact hP9, hD9⟩, hS.F ht⟩) hS.2.2 dX12_scan_222
  · refine lv_aload_n hx hb dX12_scan_51 rfl (lv_at hl 2 rfl) ?_
    refine lv_iconst (v := 4) hx hb dX12_scan_52 (by decide) ?_
    refine va_put (D := E.1) (ci := 12) (v := .int 4) (ty := .int) (C := RX12) (T := TX12) (N := 59) hx hb hts inX12 tyX12 tyX12_ok nmX12 hown hK hP hD hS 0 rfl rfl 3 (by decide) fl180 (fun _ h9 => h9) rfl (by decide +kernel) rfl rfl (Nat.le_of_ble_eq_true rfl) dX12_scan_53 (fun H locs hP hD hS => ?_)
    have hP : va_P E.1 vwCl [(h0, .inr (12, mG q i_taped (nI sz9) 4 i_what (nI n_1) (nI en9) i_worth i_faultKind i_faultPlace i_got i_worked i_deliveries i_isPlanned i_bestDone i_bestCost)), (q 0, .inl (E.2.1 3, 800, .inl a_tape))] H := hP
    have hD : va_D A [(h0, .inr (12, mG q i_taped (nI sz9) 4 i_what (nI n_1) (nI en9) i_worth i_faultKind i_faultPlace i_got i_worked i_deliveries i_isPlanned i_bestDone i_bestCost)), (q 0, .inl (E.2.1 3, 800, .inl a_tape))] := hD
    refine lv_iload_n hx hb dX12_scan_56 rfl (lv_at hl 3 rfl) ?_
    refine lv_istore_n (lv' := [(3, .int (nI n_1)), (2, .int r_2), (0, .ref h0), (1, .int (nI n_1))]) hx hb dX12_scan_57 rfl hl (by decide) rfl (fun ls hl => ?_)
    refine lv_goto (tgt := 217) hx hb dX12_scan_58 (by decide) ?_
    refine lv_aload_n hx hb dX12_scan_217 rfl (lv_at hl 2 rfl) ?_
    refine lv_iload_n hx hb dX12_scan_218 rfl (lv_at hl 0 rfl) ?_
    refine va_put (D := E.1) (ci := 12) (v := .int (nI n_1)) (ty := .int) (C := RX12) (T := TX12) (N := 59) hx hb hts inX12 tyX12 tyX12_ok nmX12 hown hK hP hD hS 0 rfl rfl 6 (by decide) fl174 (fun _ h9 => h9) rfl (by decide +kernel) rfl rfl (Nat.le_of_ble_eq_true rfl) dX12_scan_219 (fun H locs hP hD hS => ?_)
    have hP : va_P E.1 vwCl [(h0, .inr (12, mG q i_taped (nI sz9) 4 i_what (nI n_1) (nI n_1) i_worth i_faultKind i_faultPlace i_got i_worked i_deliveries i_isPlanned i_bestDone i_bestCost)), (q 0, .inl (E.2.1 3, 800, .inl a_tape))] H := hP
    have hD : va_D A [(h0, .inr (12, mG q i_taped (nI sz9) 4 i_what (nI n_1) (nI n_1) i_worth i_faultKind i_faultPlace i_got i_worked i_deliveries i_isPlanned i_bestDone i_bestCost)), (q 0, .inl (E.2.1 3, 800, .inl a_tape))] := hD
    have hP9 := hP.sub (ws' := [(h0, .inr (12, mG q i_taped (nI sz9) 4 i_what (nI n_1) (nI n_1) i_worth i_faultKind i_faultPlace i_got i_worked i_deliveries i_isPlanned i_bestDone i_bestCost)), (q 0, .inl (E.2.1 3, 800, .inl a_tape))]) [0, 1] rfl
    have hD9 := hD.sub (ws' := [(h0, .inr (12, mG q i_taped (nI sz9) 4 i_what (nI n_1) (nI n_1) i_worth i_faultKind i_faultPlace i_got i_worked i_deliveries i_isPlanned i_bestDone i_bestCost)), (q 0, .inl (E.2.1 3, 800, .inl a_tape))]) [0, 1] (by decide) rfl
    exact W.vret hx hb hr (fun t ht hW => ⟨⟨(4, i_what, nI n_1, n_1, i_worth), rfl, trivial, (by omega), Or.inl rfl, by rw [ht]; exact hP9, hD9⟩, hS.F ht⟩) hS.2.2 dX12_scan_222
set_option maxHeartbeats 4000000 in
set_option maxRecDepth 100000 in
theorem c_X12_word (l : Launch) (E : vE) (h0 : Nat) (q : Nat → Nat) (i_taped : Int32) (i_sort : Int32) (i_what : Int32) (i_at : Int32) (i_worth : Int32) (i_faultKind : Int32) (i_faultPlace : Int32) (i_got : Int32) (i_worked : Int32) (i_deliveries : Int32) (i_isPlanned : Int32) (i_bestDone : Int32) (i_bestCost : Int32) (sz9 : Nat) (en9 : Nat) (a_tape : Nat → Int32) (lo : Int32) (hi : Int32) (sz : Nat) (hsz : sz9 ≤ 800) (hen : en9 ≤ sz9) : Met l yX12_word wsX12_word ({ frames := 6, cells := 0, slots := 0, locals := 135 }) (pcW E [.ref h0, .int lo, .int hi] sz [(h0, .inr (12, mG q i_taped (nI sz9) i_sort i_what i_at (nI en9) i_worth i_faultKind i_faultPlace i_got i_worked i_deliveries i_isPlanned i_bestDone i_bestCost)), (q 0, .inl (E.2.1 3, 800, .inl a_tape))]) (va_Qi (fun (r : Int32) (u : Int32 × Int32 × Int32 × Nat × Int32 × Int32 × Int32 × Int32) => match u with | (so2, wh2, at2, en2, wo2, fk2, fp2, go2) => r = 0 ∨ r = 1) (fun (u : Int32 × Int32 × Int32 × Nat × Int32 × Int32 × Int32 × Int32) (t : State) => match u with | (so2, wh2, at2, en2, wo2, fk2, fp2, go2) => (en9 ≤ en2 ∧ en2 ≤ sz9) ∧ wB E (va_A [(h0, .inr (12, mG q i_taped (nI sz9) i_sort i_what i_at (nI en9) i_worth i_faultKind i_faultPlace i_got i_worked i_deliveries i_isPlanned i_bestDone i_bestCost)), (q 0, .inl (E.2.1 3, 800, .inl a_tape))] sz) [(h0, .inr (12, mG q i_taped (nI sz9) so2 wh2 at2 (nI en2) wo2 fk2 fp2 go2 i_worked i_deliveries i_isPlanned i_bestDone i_bestCost)), (q 0, .inl (E.2.1 3, 800, .inl a_tape))] t) (va_A [(h0, .inr (12, mG q i_taped (nI sz9) i_sort i_what i_at (nI en9) i_worth i_faultKind i_faultPlace i_got i_worked i_deliveries i_isPlanned i_bestDone i_bestCost)), (q 0, .inl (E.2.1 3, 800, .inl a_tape))] sz)) 0 0 (va_A [(h0, .inr (12, mG q i_taped (nI sz9) i_sort i_what i_at (nI en9) i_worth i_faultKind i_faultPlace i_got i_worked i_deliveries i_isPlanned i_bestDone i_bestCost)), (q 0, .inl (E.2.1 3, 800, .inl a_tape))] sz) := by
  refine Met.ofW (cc := cX12_word) (maxL := 3) (ret := (some .boolean)) (by decide) rfl ?_
  intro p e s m args below meth c s₁ B hml hv
  obtain ⟨rfl, hsz, hP, hkn, hD0, hst⟩ := hv
  have hx := B.exec
  have hb := B.bytes
  have hr := B.returns
  have hts := atoms_spec (ws := wsX12_word) B.pre
  have hown : s.vm.findClass RX12 = some m.cls := findClass_of_methodNamed B.named
  have hlocks := B.notSynchronized
  subst hsz
  have hD := hD0.self (sz := s.heap.size)
  have hK := hkn.1
  have hAO := hkn.2.2.1
  generalize hAe : va_A [(h0, .inr (12, mG q i_taped (nI sz9) i_sort i_what i_at (nI en9) i_worth i_faultKind i_faultPlace i_got i_worked i_deliveries i_isPlanned i_bestDone i_bestCost)), (q 0, .inl (E.2.1 3, 800, .inl a_tape))] s.heap.size = A at hD hst ⊢
  have hA : ∀ q : Nat, s.heap.size ≤ q → A q := fun q h => by rw [← hAe]; exact Or.inr h
  have hS : va_S A s.heap s.heap [] := va_S.rf
  have hP : va_P E.1 vwCl [(h0, .inr (12, mG q i_taped (nI sz9) i_sort i_what i_at (nI en9) i_worth i_faultKind i_faultPlace i_got i_worked i_deliveries i_isPlanned i_bestDone i_bestCost)), (q 0, .inl (E.2.1 3, 800, .inl a_tape))] s.heap := hP
  have hl := lv_entry ([.ref h0, .int lo, .int hi]) (n := 3) (Nat.le_of_ble_eq_true rfl)
  rw [lg_entry_eq]
  generalize (lg_sl ([.ref h0, .int lo, .int hi]) ++ List.replicate (3 - (lg_sl ([.ref h0, .int lo, .int hi])).length) Slot.unset).toArray = ls at hl ⊢
  have hl : lv_has ls 3 [(0, .ref h0), (1, .int lo), (2, .int hi)] := hl
  have fl180 := hts (.fieldLink RX12 180 "BoatsHomeModel" "sort" "I") (by first | exact List.mem_of_getElem? (i := 1) rfl | decide +kernel)
  have fl191 := hts (.fieldLink RX12 191 "BoatsHomeModel" "what" "I") (by first | exact List.mem_of_getElem? (i := 2) rfl | decide +kernel)
  have fl206 := hts (.fieldLink RX12 206 "BoatsHomeModel" "got" "I") (by first | exact List.mem_of_getElem? (i := 3) rfl | decide +kernel)
  have inX12 : ∀ w ∈ u_ws RX12 TX12 59, w ∈ wsX12_word := by first | exact fun w h9 => (List.mem_cons_of_mem _ (List.mem_append_right _ h9)) | decide +kernel
  refine lv_aload_n hx hb dX12_word_0 rfl (lv_at hl 0 rfl) ?_
  refine va_get (D := E.1) (ci := 12) (v := .int i_sort) (C := RX12) (T := TX12) (N := 59) hx hb hts inX12 hown hK hP 0 rfl rfl 3 (by decide) fl180 (fun _ h9 => h9) rfl dX12_word_1 ?_
  refine lv_iconst (v := 1) hx hb dX12_word_4 (by decide) ?_
  refine lv_icmp_ne (tgt := 20) hx hb dX12_word_5 (by decide) (fun c_1 => ?_) (fun c_1 => ?_)
  · refine lv_aload_n hx hb dX12_word_20 rfl (lv_at hl 0 rfl) ?_
    refine lv_iconst (v := 1) hx hb dX12_word_21 (by decide) ?_
    have hPc := hP.sub (ws' := [(h0, .inr (12, mG q i_taped (nI sz9) i_sort i_what i_at (nI en9) i_worth i_faultKind i_faultPlace i_got i_worked i_deliveries i_isPlanned i_bestDone i_bestCost))]) [0] rfl
    have hDc := hD.sub (ws' := [(h0, .inr (12, mG q i_taped (nI sz9) i_sort i_what i_at (nI en9) i_worth i_faultKind i_faultPlace i_got i_worked i_deliveries i_isPlanned i_bestDone i_bestCost))]) [0] (by decide) rfl
    have hFc := va_free (wc := [(h0, .inr (12, mG q i_taped (nI sz9) i_sort i_what i_at (nI en9) i_worth i_faultKind i_faultPlace i_got i_worked i_deliveries i_isPlanned i_bestDone i_bestCost))]) hD hS hA [0] rfl
    refine va_calli (va_runV (As := [.int 1]) (rest := []) ⟨hx, hb, hml, hown, hts⟩ (c_X12_wrong l E h0 q i_taped (nI sz9) i_sort i_what i_at (nI en9) i_worth i_faultKind i_faultPlace i_got i_worked i_deliveries i_isPlanned i_bestDone i_bestCost 1 s.heap.size ) (cwV 1 hts gX12_word_X12_wrong rfl rfl rfl hdV_X12_wrong ⟨Nat.le_of_ble_eq_true rfl, Nat.le_of_ble_eq_true rfl⟩) ⟨pcW_blind, va_recv hK hPc (ci := 12) (q0 := 0) rfl rfl, (pcW_pre hPc hkn hDc hst hS hFc)⟩ rfl rfl hl.1 rfl (lv_room (Nat.le_of_ble_eq_true rfl)) dX12_word_22 ⟨Nat.le_of_ble_eq_true rfl, Nat.le_of_ble_eq_true rfl⟩) hS (fun q _ h => hFc q h) hFc (fun r_2 u t H1 locs ht hvm hw_3 hB hz1 hk1 hS => ?_)
    obtain ⟨hP1, hD1⟩ := hB
    rw [ht] at hP1
    try dsimp only at hw_3
    obtain ⟨hP, hD⟩ := va_join (wr := [(q 0, .inl (E.2.1 3, 800, .inl a_tape))]) (w1 := [(h0, .inr (12, mG q i_taped (nI sz9) i_sort i_what i_at (nI en9) i_worth 1 i_at i_got i_worked i_deliveries i_isPlanned i_bestDone i_bestCost))]) hP hD [0] [1] rfl rfl (by decide) (by decide) hk1 hFc hP1 hD1
    generalize H1 = H at hP hS ⊢
    have hP : va_P E.1 vwCl [(q 0, .inl (E.2.1 3, 800, .inl a_tape)), (h0, .inr (12, mG q i_taped (nI sz9) i_sort i_what i_at (nI en9) i_worth 1 i_at i_got i_worked i_deliveries i_isPlanned i_bestDone i_bestCost))] H := hP
    have hD : va_D A [(q 0, .inl (E.2.1 3, 800, .inl a_tape)), (h0, .inr (12, mG q i_taped (nI sz9) i_sort i_what i_at (nI en9) i_worth 1 i_at i_got i_worked i_deliveries i_isPlanned i_bestDone i_bestCost))] := hD
    obtain rfl : r_2 = 0 := hw_3
    have hP9 := hP.sub (ws' := [(h0, .inr (12, mG q i_taped (nI sz9) i_sort i_what i_at (nI en9) i_worth 1 i_at i_got i_worked i_deliveries i_isPlanned i_bestDone i_bestCost)), (q 0, .inl (E.2.1 3, 800, .inl a_tape))]) [1, 0] rfl
    have hD9 := hD.sub (ws' := [(h0, .inr (12, mG q i_taped (nI sz9) i_sort i_what i_at (nI en9) i_worth 1 i_at i_got i_worked i_deliveries i_isPlanned i_bestDone i_bestCost)), (q 0, .inl (E.2.1 3, 800, .inl a_tape))]) [1, 0] (by decide) rfl
    exact W.zret (v := 0) hx hb hr (by decide) (fun t ht hW => ⟨⟨0, (i_sort, i_what, i_at, en9, i_worth, 1, i_at, i_got), rfl, Or.inl rfl, (by omega), by rw [ht]; exact hP9, hD9⟩, hS.F ht⟩) hS.2.2 dX12_word_25
  · refine lv_aload_n hx hb dX12_word_8 rfl (lv_at hl 0 rfl) ?_
    refine va_get (D := E.1) (ci := 12) (v := .int i_what) (C := RX12) (T := TX12) (N := 59) hx hb hts inX12 hown hK hP 0 rfl rfl 4 (by decide) fl191 (fun _ h9 => h9) rfl dX12_word_9 ?_
    refine lv_iload_n hx hb dX12_word_12 rfl (lv_at hl 1 rfl) ?_
    refine lv_iload_n hx hb dX12_word_13 rfl (lv_at hl 2 rfl) ?_
    have hPc := hP.sub (ws' := []) [] rfl
    have hDc := hD.sub (ws' := []) [] (by decide) rfl
    have hFc := va_free (wc := []) hD hS hA [] rfl
    refine va_calli (va_runS (As := [.int i_what, .int lo, .int hi]) (rest := []) ⟨hx, hb, hml, hown, hts⟩ (c_X12_in l E i_what lo hi s.heap.size ) (va_cwS 3 hts gX12_word_X12_in rfl rfl rfl hdS_X12_in ⟨Nat.le_of_ble_eq_true rfl, Nat.le_of_ble_eq_true rfl⟩) ⟨pcW_blind, (pcW_pre hPc hkn hDc hst hS hFc)⟩ rfl rfl hl.1 rfl (lv_room (Nat.le_of_ble_eq_true rfl)) dX12_word_14 ⟨Nat.le_of_ble_eq_true rfl, Nat.le_of_ble_eq_true rfl⟩) hS (fun q _ h => hFc q h) hFc (fun r_4 u t H1 locs ht hvm hw_5 hB hz1 hk1 hS => ?_)
    obtain ⟨hP1, hD1⟩ := hB
    rw [ht] at hP1
    try dsimp only at hw_5
    obtain ⟨hP, hD⟩ := va_join (wr := [(h0, .inr (12, mG q i_taped (nI sz9) i_sort i_what i_at (nI en9) i_worth i_faultKind i_faultPlace i_got i_worked i_deliveries i_isPlanned i_bestDone i_bestCost)), (q 0, .inl (E.2.1 3, 800, .inl a_tape))]) (w1 := []) hP hD [] [0, 1] rfl rfl (by decide) (by decide) hk1 hFc hP1 hD1
    generalize H1 = H at hP hS ⊢
    have hP : va_P E.1 vwCl [(h0, .inr (12, mG q i_taped (nI sz9) i_sort i_what i_at (nI en9) i_worth i_faultKind i_faultPlace i_got i_worked i_deliveries i_isPlanned i_bestDone i_bestCost)), (q 0, .inl (E.2.1 3, 800, .inl a_tape))] H := hP
    have hD : va_D A [(h0, .inr (12, mG q i_taped (nI sz9) i_sort i_what i_at (nI en9) i_worth i_faultKind i_faultPlace i_got i_worked i_deliveries i_isPlanned i_bestDone i_bestCost)), (q 0, .inl (E.2.1 3, 800, .inl a_tape))] := hD
    refine lv_if_ne (tgt := 26) hx hb dX12_word_17 (by decide) (fun c_6 => ?_) (fun c_6 => ?_)
    · have b_7 : inR i_what lo hi = true := bn hw_5 c_6
      refine lv_aload_n hx hb dX12_word_26 rfl (lv_at hl 0 rfl) ?_
      refine lv_aload_n hx hb dX12_word_27 rfl (lv_at hl 0 rfl) ?_
      refine va_get (D := E.1) (ci := 12) (v := .int i_what) (C := RX12) (T := TX12) (N := 59) hx hb hts inX12 hown hK hP 0 rfl rfl 4 (by decide) fl191 (fun _ h9 => h9) rfl dX12_word_28 ?_
      refine va_put (D := E.1) (ci := 12) (v := .int i_what) (ty := .int) (C := RX12) (T := TX12) (N := 59) hx hb hts inX12 tyX12 tyX12_ok nmX12 hown hK hP hD hS 0 rfl rfl 16 (by decide) fl206 (fun _ h9 => h9) rfl (by decide +kernel) rfl rfl (Nat.le_of_ble_eq_true rfl) dX12_word_31 (fun H locs hP hD hS => ?_)
      have hP : va_P E.1 vwCl [(h0, .inr (12, mG q i_taped (nI sz9) i_sort i_what i_at (nI en9) i_worth i_faultKind i_faultPlace i_what i_worked i_deliveries i_isPlanned i_bestDone i_bestCost)), (q 0, .inl (E.2.1 3, 800, .inl a_tape))] H := hP
      have hD : va_D A [(h0, .inr (12, mG q i_taped (nI sz9) i_sort i_what i_at (nI en9) i_worth i_faultKind i_faultPlace i_what i_worked i_deliveries i_isPlanned i_bestDone i_bestCost)), (q 0, .inl (E.2.1 3, 800, .inl a_tape))] := hD
      refine lv_aload_n hx hb dX12_word_34 rfl (lv_at hl 0 rfl) ?_
      have hPc := hP.sub (ws' := [(h0, .inr (12, mG q i_taped (nI sz9) i_sort i_what i_at (nI en9) i_worth i_faultKind i_faultPlace i_what i_worked i_deliveries i_isPlanned i_bestDone i_bestCost)), (q 0, .inl (E.2.1 3, 800, .inl a_tape))]) [0, 1] rfl
      have hDc := hD.sub (ws' := [(h0, .inr (12, mG q i_taped (nI sz9) i_sort i_what i_at (nI en9) i_worth i_faultKind i_faultPlace i_what i_worked i_deliveries i_isPlanned i_bestDone i_bestCost)), (q 0, .inl (E.2.1 3, 800, .inl a_tape))]) [0, 1] (by decide) rfl
      have hFc := va_free (wc := [(h0, .inr (12, mG q i_taped (nI sz9) i_sort i_what i_at (nI en9) i_worth i_faultKind i_faultPlace i_what i_worked i_deliveries i_isPlanned i_bestDone i_bestCost)), (q 0, .inl (E.2.1 3, 800, .inl a_tape))]) hD hS hA [0, 1] rfl
      refine va_callv (va_runV (As := []) (rest := []) ⟨hx, hb, hml, hown, hts⟩ (c_X12_scan l E h0 q i_taped i_sort i_what i_at i_worth i_faultKind i_faultPlace i_what i_worked i_deliveries i_isPlanned i_bestDone i_bestCost sz9 en9 a_tape H.size (by omega) (by omega)) (cwV 0 hts gX12_word_X12_scan rfl rfl rfl hdV_X12_scan ⟨Nat.le_of_ble_eq_true rfl, Nat.le_of_ble_eq_true rfl⟩) ⟨pcW_blind, va_recv hK hPc (ci := 12) (q0 := 0) rfl rfl, (pcW_pre hPc hkn hDc hst hS hFc)⟩ rfl rfl hl.1 rfl (lv_room (Nat.le_of_ble_eq_true rfl)) dX12_word_35 ⟨Nat.le_of_ble_eq_true rfl, Nat.le_of_ble_eq_true rfl⟩) hS (fun q _ h => hFc q h) hFc (fun u t H1 locs ht hvm hw_9 hB hz1 hk1 hS => ?_)
      obtain ⟨u_10, u_11, u_12, u_13, u_14⟩ := u
      obtain ⟨hf_15, hf_16, hP1, hD1⟩ := hB
      rw [ht] at hP1
      try dsimp only at hw_9
      obtain ⟨hP, hD⟩ := va_join (wr := []) (w1 := [(h0, .inr (12, mG q i_taped (nI sz9) u_10 u_11 u_12 (nI u_13) u_14 i_faultKind i_faultPlace i_what i_worked i_deliveries i_isPlanned i_bestDone i_bestCost)), (q 0, .inl (E.2.1 3, 800, .inl a_tape))]) hP hD [0, 1] [] rfl rfl (by decide) (by decide) hk1 hFc hP1 hD1
      generalize H1 = H at hP hS ⊢
      have hP : va_P E.1 vwCl [(h0, .inr (12, mG q i_taped (nI sz9) u_10 u_11 u_12 (nI u_13) u_14 i_faultKind i_faultPlace i_what i_worked i_deliveries i_isPlanned i_bestDone i_bestCost)), (q 0, .inl (E.2.1 3, 800, .inl a_tape))] H := hP
      have hD : va_D A [(h0, .inr (12, mG q i_taped (nI sz9) u_10 u_11 u_12 (nI u_13) u_14 i_faultKind i_faultPlace i_what i_worked i_deliveries i_isPlanned i_bestDone i_bestCost)), (q 0, .inl (E.2.1 3, 800, .inl a_tape))] := hD
      refine lv_iconst (v := 1) hx hb dX12_word_38 (by decide) ?_
      have hP9 := hP.sub (ws' := [(h0, .inr (12, mG q i_taped (nI sz9) u_10 u_11 u_12 (nI u_13) u_14 i_faultKind i_faultPlace i_what i_worked i_deliveries i_isPlanned i_bestDone i_bestCost)), (q 0, .inl (E.2.1 3, 800, .inl a_tape))]) [0, 1] rfl
      have hD9 := hD.sub (ws' := [(h0, .inr (12, mG q i_taped (nI sz9) u_10 u_11 u_12 (nI u_13) u_14 i_faultKind i_faultPlace i_what i_worked i_deliveries i_isPlanned i_bestDone i_bestCost)), (q 0, .inl (E.2.1 3, 800, .inl a_tape))]) [0, 1] (by decide) rfl
      exact W.zret (v := 1) hx hb hr (by decide) (fun t ht hW => ⟨⟨1, (u_10, u_11, u_12, u_13, u_14, i_faultKind, i_faultPlace, i_what), rfl, Or.inr rfl, (by omega), by rw [ht]; exact hP9, hD9⟩, hS.F ht⟩) hS.2.2 dX12_word_39
    · have b_17 : inR i_what lo hi = false := bz hw_5 c_6
      refine lv_aload_n hx hb dX12_word_20 rfl (lv_at hl 0 rfl) ?_
      refine lv_iconst (v := 1) hx hb dX12_word_21 (by decide) ?_
      have hPc := hP.sub (ws' := [(h0, .inr (12, mG q i_taped (nI sz9) i_sort i_what i_at (nI en9) i_worth i_faultKind i_faultPlace i_got i_worked i_deliveries i_isPlanned i_bestDone i_bestCost))]) [0] rfl
      have hDc := hD.sub (ws' := [(h0, .inr (12, mG q i_taped (nI sz9) i_sort i_what i_at (nI en9) i_worth i_faultKind i_faultPlace i_got i_worked i_deliveries i_isPlanned i_bestDone i_bestCost))]) [0] (by decide) rfl
      have hFc := va_free (wc := [(h0, .inr (12, mG q i_taped (nI sz9) i_sort i_what i_at (nI en9) i_worth i_faultKind i_faultPlace i_got i_worked i_deliveries i_isPlanned i_bestDone i_bestCost))]) hD hS hA [0] rfl
      refine va_calli (va_runV (As := [.int 1]) (rest := []) ⟨hx, hb, hml, hown, hts⟩ (c_X12_wrong l E h0 q i_taped (nI sz9) i_sort i_what i_at (nI en9) i_worth i_faultKind i_faultPlace i_got i_worked i_deliveries i_isPlanned i_bestDone i_bestCost 1 H.size ) (cwV 1 hts gX12_word_X12_wrong rfl rfl rfl hdV_X12_wrong ⟨Nat.le_of_ble_eq_true rfl, Nat.le_of_ble_eq_true rfl⟩) ⟨pcW_blind, va_recv hK hPc (ci := 12) (q0 := 0) rfl rfl, (pcW_pre hPc hkn hDc hst hS hFc)⟩ rfl rfl hl.1 rfl (lv_room (Nat.le_of_ble_eq_true rfl)) dX12_word_22 ⟨Nat.le_of_ble_eq_true rfl, Nat.le_of_ble_eq_true rfl⟩) hS (fun q _ h => hFc q h) hFc (fun r_18 u t H1 locs ht hvm hw_19 hB hz1 hk1 hS => ?_)
      obtain ⟨hP1, hD1⟩ := hB
      rw [ht] at hP1
      try dsimp only at hw_19
      obtain ⟨hP, hD⟩ := va_join (wr := [(q 0, .inl (E.2.1 3, 800, .inl a_tape))]) (w1 := [(h0, .inr (12, mG q i_taped (nI sz9) i_sort i_what i_at (nI en9) i_worth 1 i_at i_got i_worked i_deliveries i_isPlanned i_bestDone i_bestCost))]) hP hD [0] [1] rfl rfl (by decide) (by decide) hk1 hFc hP1 hD1
      generalize H1 = H at hP hS ⊢
      have hP : va_P E.1 vwCl [(q 0, .inl (E.2.1 3, 800, .inl a_tape)), (h0, .inr (12, mG q i_taped (nI sz9) i_sort i_what i_at (nI en9) i_worth 1 i_at i_got i_worked i_deliveries i_isPlanned i_bestDone i_bestCost))] H := hP
      have hD : va_D A [(q 0, .inl (E.2.1 3, 800, .inl a_tape)), (h0, .inr (12, mG q i_taped (nI sz9) i_sort i_what i_at (nI en9) i_worth 1 i_at i_got i_worked i_deliveries i_isPlanned i_bestDone i_bestCost))] := hD
      obtain rfl : r_18 = 0 := hw_19
      have hP9 := hP.sub (ws' := [(h0, .inr (12, mG q i_taped (nI sz9) i_sort i_what i_at (nI en9) i_worth 1 i_at i_got i_worked i_deliveries i_isPlanned i_bestDone i_bestCost)), (q 0, .inl (E.2.1 3, 800, .inl a_tape))]) [1, 0] rfl
      have hD9 := hD.sub (ws' := [(h0, .inr (12, mG q i_taped (nI sz9) i_sort i_what i_at (nI en9) i_worth 1 i_at i_got i_worked i_deliveries i_isPlanned i_bestDone i_bestCost)), (q 0, .inl (E.2.1 3, 800, .inl a_tape))]) [1, 0] (by decide) rfl
      exact W.zret (v := 0) hx hb hr (by decide) (fun t ht hW => ⟨⟨0, (i_sort, i_what, i_at, en9, i_worth, 1, i_at, i_got), rfl, Or.inl rfl, (by omega), by rw [ht]; exact hP9, hD9⟩, hS.F ht⟩) hS.2.2 dX12_word_25
set_option maxHeartbeats 4000000 in
set_option maxRecDepth 100000 in
theorem c_X12_number (l : Launch) (E : vE) (h0 : Nat) (q : Nat → Nat) (i_taped : Int32) (i_sort : Int32) (i_what : Int32) (i_at : Int32) (i_worth : Int32) (i_faultKind : Int32) (i_faultPlace : Int32) (i_got : Int32) (i_worked : Int32) (i_deliveries : Int32) (i_isPlanned : Int32) (i_bestDone : Int32) (i_bestCost : Int32) (sz9 : Nat) (en9 : Nat) (a_tape : Nat → Int32) (hi : Int32) (sz : Nat) (hsz : sz9 ≤ 800) (hen : en9 ≤ sz9) : Met l yX12_number wsX12_number ({ frames := 6, cells := 0, slots := 0, locals := 135 }) (pcW E [.ref h0, .int hi] sz [(h0, .inr (12, mG q i_taped (nI sz9) i_sort i_what i_at (nI en9) i_worth i_faultKind i_faultPlace i_got i_worked i_deliveries i_isPlanned i_bestDone i_bestCost)), (q 0, .inl (E.2.1 3, 800, .inl a_tape))]) (va_Qi (fun (r : Int32) (u : Int32 × Int32 × Int32 × Nat × Int32 × Int32 × Int32 × Int32) => match u with | (so2, wh2, at2, en2, wo2, fk2, fp2, go2) => r = 0 ∨ r = 1) (fun (u : Int32 × Int32 × Int32 × Nat × Int32 × Int32 × Int32 × Int32) (t : State) => match u with | (so2, wh2, at2, en2, wo2, fk2, fp2, go2) => (en9 ≤ en2 ∧ en2 ≤ sz9) ∧ wB E (va_A [(h0, .inr (12, mG q i_taped (nI sz9) i_sort i_what i_at (nI en9) i_worth i_faultKind i_faultPlace i_got i_worked i_deliveries i_isPlanned i_bestDone i_bestCost)), (q 0, .inl (E.2.1 3, 800, .inl a_tape))] sz) [(h0, .inr (12, mG q i_taped (nI sz9) so2 wh2 at2 (nI en2) wo2 fk2 fp2 go2 i_worked i_deliveries i_isPlanned i_bestDone i_bestCost)), (q 0, .inl (E.2.1 3, 800, .inl a_tape))] t) (va_A [(h0, .inr (12, mG q i_taped (nI sz9) i_sort i_what i_at (nI en9) i_worth i_faultKind i_faultPlace i_got i_worked i_deliveries i_isPlanned i_bestDone i_bestCost)), (q 0, .inl (E.2.1 3, 800, .inl a_tape))] sz)) 0 0 (va_A [(h0, .inr (12, mG q i_taped (nI sz9) i_sort i_what i_at (nI en9) i_worth i_faultKind i_faultPlace i_got i_worked i_deliveries i_isPlanned i_bestDone i_bestCost)), (q 0, .inl (E.2.1 3, 800, .inl a_tape))] sz) := by
  refine Met.ofW (cc := cX12_number) (maxL := 2) (ret := (some .boolean)) (by decide) rfl ?_
  intro p e s m args below meth c s₁ B hml hv
  obtain ⟨rfl, hsz, hP, hkn, hD0, hst⟩ := hv
  have hx := B.exec
  have hb := B.bytes
  have hr := B.returns
  have hts := atoms_spec (ws := wsX12_number) B.pre
  have hown : s.vm.findClass RX12 = some m.cls := findClass_of_methodNamed B.named
  have hlocks := B.notSynchronized
  subst hsz
  have hD := hD0.self (sz := s.heap.size)
  have hK := hkn.1
  have hAO := hkn.2.2.1
  generalize hAe : va_A [(h0, .inr (12, mG q i_taped (nI sz9) i_sort i_what i_at (nI en9) i_worth i_faultKind i_faultPlace i_got i_worked i_deliveries i_isPlanned i_bestDone i_bestCost)), (q 0, .inl (E.2.1 3, 800, .inl a_tape))] s.heap.size = A at hD hst ⊢
  have hA : ∀ q : Nat, s.heap.size ≤ q → A q := fun q h => by rw [← hAe]; exact Or.inr h
  have hS : va_S A s.heap s.heap [] := va_S.rf
  have hP : va_P E.1 vwCl [(h0, .inr (12, mG q i_taped (nI sz9) i_sort i_what i_at (nI en9) i_worth i_faultKind i_faultPlace i_got i_worked i_deliveries i_isPlanned i_bestDone i_bestCost)), (q 0, .inl (E.2.1 3, 800, .inl a_tape))] s.heap := hP
  have hl := lv_entry ([.ref h0, .int hi]) (n := 2) (Nat.le_of_ble_eq_true rfl)
  rw [lg_entry_eq]
  generalize (lg_sl ([.ref h0, .int hi]) ++ List.replicate (2 - (lg_sl ([.ref h0, .int hi])).length) Slot.unset).toArray = ls at hl ⊢
  have hl : lv_has ls 2 [(0, .ref h0), (1, .int hi)] := hl
  have fl180 := hts (.fieldLink RX12 180 "BoatsHomeModel" "sort" "I") (by first | exact List.mem_of_getElem? (i := 1) rfl | decide +kernel)
  have fl197 := hts (.fieldLink RX12 197 "BoatsHomeModel" "worth" "I") (by first | exact List.mem_of_getElem? (i := 2) rfl | decide +kernel)
  have fl206 := hts (.fieldLink RX12 206 "BoatsHomeModel" "got" "I") (by first | exact List.mem_of_getElem? (i := 3) rfl | decide +kernel)
  have inX12 : ∀ w ∈ u_ws RX12 TX12 59, w ∈ wsX12_number := by first | exact fun w h9 => (List.mem_cons_of_mem _ (List.mem_append_right _ h9)) | decide +kernel
  refine lv_aload_n hx hb dX12_number_0 rfl (lv_at hl 0 rfl) ?_
  refine va_get (D := E.1) (ci := 12) (v := .int i_sort) (C := RX12) (T := TX12) (N := 59) hx hb hts inX12 hown hK hP 0 rfl rfl 3 (by decide) fl180 (fun _ h9 => h9) rfl dX12_number_1 ?_
  refine lv_iconst (v := 2) hx hb dX12_number_4 (by decide) ?_
  refine lv_icmp_eq (tgt := 14) hx hb dX12_number_5 (by decide) (fun c_1 => ?_) (fun c_1 => ?_)
  · refine lv_aload_n hx hb dX12_number_14 rfl (lv_at hl 0 rfl) ?_
    refine va_get (D := E.1) (ci := 12) (v := .int i_worth) (C := RX12) (T := TX12) (N := 59) hx hb hts inX12 hown hK hP 0 rfl rfl 7 (by decide) fl197 (fun _ h9 => h9) rfl dX12_number_15 ?_
    refine lv_iload_n hx hb dX12_number_18 rfl (lv_at hl 1 rfl) ?_
    refine lv_icmp_le (tgt := 28) hx hb dX12_number_19 (by decide) (fun c_2 => ?_) (fun c_2 => ?_)
    · refine lv_aload_n hx hb dX12_number_28 rfl (lv_at hl 0 rfl) ?_
      refine lv_aload_n hx hb dX12_number_29 rfl (lv_at hl 0 rfl) ?_
      refine va_get (D := E.1) (ci := 12) (v := .int i_worth) (C := RX12) (T := TX12) (N := 59) hx hb hts inX12 hown hK hP 0 rfl rfl 7 (by decide) fl197 (fun _ h9 => h9) rfl dX12_number_30 ?_
      refine va_put (D := E.1) (ci := 12) (v := .int i_worth) (ty := .int) (C := RX12) (T := TX12) (N := 59) hx hb hts inX12 tyX12 tyX12_ok nmX12 hown hK hP hD hS 0 rfl rfl 16 (by decide) fl206 (fun _ h9 => h9) rfl (by decide +kernel) rfl rfl (Nat.le_of_ble_eq_true rfl) dX12_number_33 (fun H locs hP hD hS => ?_)
      have hP : va_P E.1 vwCl [(h0, .inr (12, mG q i_taped (nI sz9) i_sort i_what i_at (nI en9) i_worth i_faultKind i_faultPlace i_worth i_worked i_deliveries i_isPlanned i_bestDone i_bestCost)), (q 0, .inl (E.2.1 3, 800, .inl a_tape))] H := hP
      have hD : va_D A [(h0, .inr (12, mG q i_taped (nI sz9) i_sort i_what i_at (nI en9) i_worth i_faultKind i_faultPlace i_worth i_worked i_deliveries i_isPlanned i_bestDone i_bestCost)), (q 0, .inl (E.2.1 3, 800, .inl a_tape))] := hD
      refine lv_aload_n hx hb dX12_number_36 rfl (lv_at hl 0 rfl) ?_
      have hPc := hP.sub (ws' := [(h0, .inr (12, mG q i_taped (nI sz9) i_sort i_what i_at (nI en9) i_worth i_faultKind i_faultPlace i_worth i_worked i_deliveries i_isPlanned i_bestDone i_bestCost)), (q 0, .inl (E.2.1 3, 800, .inl a_tape))]) [0, 1] rfl
      have hDc := hD.sub (ws' := [(h0, .inr (12, mG q i_taped (nI sz9) i_sort i_what i_at (nI en9) i_worth i_faultKind i_faultPlace i_worth i_worked i_deliveries i_isPlanned i_bestDone i_bestCost)), (q 0, .inl (E.2.1 3, 800, .inl a_tape))]) [0, 1] (by decide) rfl
      have hFc := va_free (wc := [(h0, .inr (12, mG q i_taped (nI sz9) i_sort i_what i_at (nI en9) i_worth i_faultKind i_faultPlace i_worth i_worked i_deliveries i_isPlanned i_bestDone i_bestCost)), (q 0, .inl (E.2.1 3, 800, .inl a_tape))]) hD hS hA [0, 1] rfl
      refine va_callv (va_runV (As := []) (rest := []) ⟨hx, hb, hml, hown, hts⟩ (c_X12_scan l E h0 q i_taped i_sort i_what i_at i_worth i_faultKind i_faultPlace i_worth i_worked i_deliveries i_isPlanned i_bestDone i_bestCost sz9 en9 a_tape H.size (by omega) (by omega)) (cwV 0 hts gX12_number_X12_scan rfl rfl rfl hdV_X12_scan ⟨Nat.le_of_ble_eq_true rfl, Nat.le_of_ble_eq_true rfl⟩) ⟨pcW_blind, va_recv hK hPc (ci := 12) (q0 := 0) rfl rfl, (pcW_pre hPc hkn hDc hst hS hFc)⟩ rfl rfl hl.1 rfl (lv_room (Nat.le_of_ble_eq_true rfl)) dX12_number_37 ⟨Nat.le_of_ble_eq_true rfl, Nat.le_of_ble_eq_true rfl⟩) hS (fun q _ h => hFc q h) hFc (fun u t H1 locs ht hvm hw_4 hB hz1 hk1 hS => ?_)
      obtain ⟨u_5, u_6, u_7, u_8, u_9⟩ := u
      obtain ⟨hf_10, hf_11, hP1, hD1⟩ := hB
      rw [ht] at hP1
      try dsimp only at hw_4
      obtain ⟨hP, hD⟩ := va_join (wr := []) (w1 := [(h0, .inr (12, mG q i_taped (nI sz9) u_5 u_6 u_7 (nI u_8) u_9 i_faultKind i_faultPlace i_worth i_worked i_deliveries i_isPlanned i_bestDone i_bestCost)), (q 0, .inl (E.2.1 3, 800, .inl a_tape))]) hP hD [0, 1] [] rfl rfl (by decide) (by decide) hk1 hFc hP1 hD1
      generalize H1 = H at hP hS ⊢
      have hP : va_P E.1 vwCl [(h0, .inr (12, mG q i_taped (nI sz9) u_5 u_6 u_7 (nI u_8) u_9 i_faultKind i_faultPlace i_worth i_worked i_deliveries i_isPlanned i_bestDone i_bestCost)), (q 0, .inl (E.2.1 3, 800, .inl a_tape))] H := hP
      have hD : va_D A [(h0, .inr (12, mG q i_taped (nI sz9) u_5 u_6 u_7 (nI u_8) u_9 i_faultKind i_faultPlace i_worth i_worked i_deliveries i_isPlanned i_bestDone i_bestCost)), (q 0, .inl (E.2.1 3, 800, .inl a_tape))] := hD
      refine lv_iconst (v := 1) hx hb dX12_number_40 (by decide) ?_
      have hP9 := hP.sub (ws' := [(h0, .inr (12, mG q i_taped (nI sz9) u_5 u_6 u_7 (nI u_8) u_9 i_faultKind i_faultPlace i_worth i_worked i_deliveries i_isPlanned i_bestDone i_bestCost)), (q 0, .inl (E.2.1 3, 800, .inl a_tape))]) [0, 1] rfl
      have hD9 := hD.sub (ws' := [(h0, .inr (12, mG q i_taped (nI sz9) u_5 u_6 u_7 (nI u_8) u_9 i_faultKind i_faultPlace i_worth i_worked i_deliveries i_isPlanned i_bestDone i_bestCost)), (q 0, .inl (E.2.1 3, 800, .inl a_tape))]) [0, 1] (by decide) rfl
      exact W.zret (v := 1) hx hb hr (by decide) (fun t ht hW => ⟨⟨1, (u_5, u_6, u_7, u_8, u_9, i_faultKind, i_faultPlace, i_worth), rfl, Or.inr rfl, (by omega), by rw [ht]; exact hP9, hD9⟩, hS.F ht⟩) hS.2.2 dX12_number_41
    · refine lv_aload_n hx hb dX12_number_22 rfl (lv_at hl 0 rfl) ?_
      refine lv_iconst (v := 2) hx hb dX12_number_23 (by decide) ?_
      have hPc := hP.sub (ws' := [(h0, .inr (12, mG q i_taped (nI sz9) i_sort i_what i_at (nI en9) i_worth i_faultKind i_faultPlace i_got i_worked i_deliveries i_isPlanned i_bestDone i_bestCost))]) [0] rfl
      have hDc := hD.sub (ws' := [(h0, .inr (12, mG q i_taped (nI sz9) i_sort i_what i_at (nI en9) i_worth i_faultKind i_faultPlace i_got i_worked i_deliveries i_isPlanned i_bestDone i_bestCost))]) [0] (by decide) rfl
      have hFc := va_free (wc := [(h0, .inr (12, mG q i_taped (nI sz9) i_sort i_what i_at (nI en9) i_worth i_faultKind i_faultPlace i_got i_worked i_deliveries i_isPlanned i_bestDone i_bestCost))]) hD hS hA [0] rfl
      refine va_calli (va_runV (As := [.int 2]) (rest := []) ⟨hx, hb, hml, hown, hts⟩ (c_X12_wrong l E h0 q i_taped (nI sz9) i_sort i_what i_at (nI en9) i_worth i_faultKind i_faultPlace i_got i_worked i_deliveries i_isPlanned i_bestDone i_bestCost 2 s.heap.size ) (cwV 1 hts gX12_number_X12_wrong rfl rfl rfl hdV_X12_wrong ⟨Nat.le_of_ble_eq_true rfl, Nat.le_of_ble_eq_true rfl⟩) ⟨pcW_blind, va_recv hK hPc (ci := 12) (q0 := 0) rfl rfl, (pcW_pre hPc hkn hDc hst hS hFc)⟩ rfl rfl hl.1 rfl (lv_room (Nat.le_of_ble_eq_true rfl)) dX12_number_24 ⟨Nat.le_of_ble_eq_true rfl, Nat.le_of_ble_eq_true rfl⟩) hS (fun q _ h => hFc q h) hFc (fun r_12 u t H1 locs ht hvm hw_13 hB hz1 hk1 hS => ?_)
      obtain ⟨hP1, hD1⟩ := hB
      rw [ht] at hP1
      try dsimp only at hw_13
      obtain ⟨hP, hD⟩ := va_join (wr := [(q 0, .inl (E.2.1 3, 800, .inl a_tape))]) (w1 := [(h0, .inr (12, mG q i_taped (nI sz9) i_sort i_what i_at (nI en9) i_worth 2 i_at i_got i_worked i_deliveries i_isPlanned i_bestDone i_bestCost))]) hP hD [0] [1] rfl rfl (by decide) (by decide) hk1 hFc hP1 hD1
      generalize H1 = H at hP hS ⊢
      have hP : va_P E.1 vwCl [(q 0, .inl (E.2.1 3, 800, .inl a_tape)), (h0, .inr (12, mG q i_taped (nI sz9) i_sort i_what i_at (nI en9) i_worth 2 i_at i_got i_worked i_deliveries i_isPlanned i_bestDone i_bestCost))] H := hP
      have hD : va_D A [(q 0, .inl (E.2.1 3, 800, .inl a_tape)), (h0, .inr (12, mG q i_taped (nI sz9) i_sort i_what i_at (nI en9) i_worth 2 i_at i_got i_worked i_deliveries i_isPlanned i_bestDone i_bestCost))] := hD
      obtain rfl : r_12 = 0 := hw_13
      have hP9 := hP.sub (ws' := [(h0, .inr (12, mG q i_taped (nI sz9) i_sort i_what i_at (nI en9) i_worth 2 i_at i_got i_worked i_deliveries i_isPlanned i_bestDone i_bestCost)), (q 0, .inl (E.2.1 3, 800, .inl a_tape))]) [1, 0] rfl
      have hD9 := hD.sub (ws' := [(h0, .inr (12, mG q i_taped (nI sz9) i_sort i_what i_at (nI en9) i_worth 2 i_at i_got i_worked i_deliveries i_isPlanned i_bestDone i_bestCost)), (q 0, .inl (E.2.1 3, 800, .inl a_tape))]) [1, 0] (by decide) rfl
      exact W.zret (v := 0) hx hb hr (by decide) (fun t ht hW => ⟨⟨0, (i_sort, i_what, i_at, en9, i_worth, 2, i_at, i_got), rfl, Or.inl rfl, (by omega), by rw [ht]; exact hP9, hD9⟩, hS.F ht⟩) hS.2.2 dX12_number_27
  · refine lv_aload_n hx hb dX12_number_8 rfl (lv_at hl 0 rfl) ?_
    refine lv_iconst (v := 1) hx hb dX12_number_9 (by decide) ?_
    have hPc := hP.sub (ws' := [(h0, .inr (12, mG q i_taped (nI sz9) i_sort i_what i_at (nI en9) i_worth i_faultKind i_faultPlace i_got i_worked i_deliveries i_isPlanned i_bestDone i_bestCost))]) [0] rfl
    have hDc := hD.sub (ws' := [(h0, .inr (12, mG q i_taped (nI sz9) i_sort i_what i_at (nI en9) i_worth i_faultKind i_faultPlace i_got i_worked i_deliveries i_isPlanned i_bestDone i_bestCost))]) [0] (by decide) rfl
    have hFc := va_free (wc := [(h0, .inr (12, mG q i_taped (nI sz9) i_sort i_what i_at (nI en9) i_worth i_faultKind i_faultPlace i_got i_worked i_deliveries i_isPlanned i_bestDone i_bestCost))]) hD hS hA [0] rfl
    refine va_calli (va_runV (As := [.int 1]) (rest := []) ⟨hx, hb, hml, hown, hts⟩ (c_X12_wrong l E h0 q i_taped (nI sz9) i_sort i_what i_at (nI en9) i_worth i_faultKind i_faultPlace i_got i_worked i_deliveries i_isPlanned i_bestDone i_bestCost 1 s.heap.size ) (cwV 1 hts gX12_number_X12_wrong rfl rfl rfl hdV_X12_wrong ⟨Nat.le_of_ble_eq_true rfl, Nat.le_of_ble_eq_true rfl⟩) ⟨pcW_blind, va_recv hK hPc (ci := 12) (q0 := 0) rfl rfl, (pcW_pre hPc hkn hDc hst hS hFc)⟩ rfl rfl hl.1 rfl (lv_room (Nat.le_of_ble_eq_true rfl)) dX12_number_10 ⟨Nat.le_of_ble_eq_true rfl, Nat.le_of_ble_eq_true rfl⟩) hS (fun q _ h => hFc q h) hFc (fun r_14 u t H1 locs ht hvm hw_15 hB hz1 hk1 hS => ?_)
    obtain ⟨hP1, hD1⟩ := hB
    rw [ht] at hP1
    try dsimp only at hw_15
    obtain ⟨hP, hD⟩ := va_join (wr := [(q 0, .inl (E.2.1 3, 800, .inl a_tape))]) (w1 := [(h0, .inr (12, mG q i_taped (nI sz9) i_sort i_what i_at (nI en9) i_worth 1 i_at i_got i_worked i_deliveries i_isPlanned i_bestDone i_bestCost))]) hP hD [0] [1] rfl rfl (by decide) (by decide) hk1 hFc hP1 hD1
    generalize H1 = H at hP hS ⊢
    have hP : va_P E.1 vwCl [(q 0, .inl (E.2.1 3, 800, .inl a_tape)), (h0, .inr (12, mG q i_taped (nI sz9) i_sort i_what i_at (nI en9) i_worth 1 i_at i_got i_worked i_deliveries i_isPlanned i_bestDone i_bestCost))] H := hP
    have hD : va_D A [(q 0, .inl (E.2.1 3, 800, .inl a_tape)), (h0, .inr (12, mG q i_taped (nI sz9) i_sort i_what i_at (nI en9) i_worth 1 i_at i_got i_worked i_deliveries i_isPlanned i_bestDone i_bestCost))] := hD
    obtain rfl : r_14 = 0 := hw_15
    have hP9 := hP.sub (ws' := [(h0, .inr (12, mG q i_taped (nI sz9) i_sort i_what i_at (nI en9) i_worth 1 i_at i_got i_worked i_deliveries i_isPlanned i_bestDone i_bestCost)), (q 0, .inl (E.2.1 3, 800, .inl a_tape))]) [1, 0] rfl
    have hD9 := hD.sub (ws' := [(h0, .inr (12, mG q i_taped (nI sz9) i_sort i_what i_at (nI en9) i_worth 1 i_at i_got i_worked i_deliveries i_isPlanned i_bestDone i_bestCost)), (q 0, .inl (E.2.1 3, 800, .inl a_tape))]) [1, 0] (by decide) rfl
    exact W.zret (v := 0) hx hb hr (by decide) (fun t ht hW => ⟨⟨0, (i_sort, i_what, i_at, en9, i_worth, 1, i_at, i_got), rfl, Or.inl rfl, (by omega), by rw [ht]; exact hP9, hD9⟩, hS.F ht⟩) hS.2.2 dX12_number_13
