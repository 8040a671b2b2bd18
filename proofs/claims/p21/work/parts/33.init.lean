set_option maxHeartbeats 4000000 in
set_option maxRecDepth 100000 in
theorem c_X9_init (l : Launch) (E : vE) (h0 : Nat) (sz : Nat) : Met l yX9_init wsX9_init ({ frames := 1, cells := 1, slots := 800, locals := 12 }) (pcW E [.ref h0] sz [(h0, .inr (9, [.null, .int 0]))]) (va_Qv (fun (_ : Unit) => True) (fun (_ : Unit) (t : State) => ∃ (q1 : Nat), wB E (va_A [(h0, .inr (9, [.null, .int 0]))] sz) [(h0, .inr (9, [.ref q1, .int 0])), (q1, .inl (E.2.1 0, 800, .inl (fun _ => 0)))] t) (va_A [(h0, .inr (9, [.null, .int 0]))] sz)) 1 800 (va_A [(h0, .inr (9, [.null, .int 0]))] sz) := by
  refine Met.ofW (cc := cX9_init) (maxL := 1) (ret := none) (by decide) rfl ?_
  intro p e s m args below meth c s₁ B hml hv
  obtain ⟨rfl, hsz, hP, hkn, hD0, hst⟩ := hv
  have hx := B.exec
  have hb := B.bytes
  have hr := B.returns
  have hts := atoms_spec (ws := wsX9_init) B.pre
  have hown : s.vm.findClass RX9 = some m.cls := findClass_of_methodNamed B.named
  have hlocks := B.notSynchronized
  have hin : meth.name = "<init>" := (name_of_methodNamed B.named B.method).1
  subst hsz
  have hD := hD0.self (sz := s.heap.size)
  have hK := hkn.1
  have hAO := hkn.2.2.1
  generalize hAe : va_A [(h0, .inr (9, [.null, .int 0]))] s.heap.size = A at hD hst ⊢
  have hA : ∀ q : Nat, s.heap.size ≤ q → A q := fun q h => by rw [← hAe]; exact Or.inr h
  have hS : va_S A s.heap s.heap [] := va_S.rf
  have hP : va_P E.1 vwCl [(h0, .inr (9, [.null, .int 0]))] s.heap := hP
  have hl := lv_entry ([.ref h0]) (n := 1) (Nat.le_of_ble_eq_true rfl)
  rw [lg_entry_eq]
  generalize (lg_sl ([.ref h0]) ++ List.replicate (1 - (lg_sl ([.ref h0])).length) Slot.unset).toArray = ls at hl ⊢
  have hl : lv_has ls 1 [(0, .ref h0)] := hl
  have fl9 := hts (.fieldLink RX9 9 "BoatsHome$Tape" "bytes" "[I") (by first | exact List.mem_of_getElem? (i := 5) rfl | decide +kernel)
  have fl15 := hts (.fieldLink RX9 15 "BoatsHome$Tape" "length" "I") (by first | exact List.mem_of_getElem? (i := 6) rfl | decide +kernel)
  have inX9 : ∀ w ∈ u_ws RX9 TX9 2, w ∈ wsX9_init := by first | exact fun w h9 => (List.mem_cons_of_mem _ (List.mem_append_right _ h9)) | decide +kernel
  refine lv_aload_n hx hb dX9_init_0 rfl (lv_at hl 0 rfl) ?_
  refine W.objInit hx hb hown (hts (.methodLink RX9 3 objectInit) (by first | exact List.mem_of_getElem? (i := 1) rfl | decide +kernel)) (hts (.instanceMethod objectInit) (by first | exact List.mem_of_getElem? (i := 2) rfl | decide +kernel)) (hts (.code objectInit ⟨#[0xb1]⟩ 1 none) (by first | exact List.mem_of_getElem? (i := 3) rfl | decide +kernel)) rfl (by rw [hml]; exact hl.1) rfl dX9_init_1 (Nat.le_of_ble_eq_true rfl) (Nat.le_of_ble_eq_true rfl) ?_
  refine W.eq (g2 := F0 m 4 ls []) rfl ?_
  refine lv_aload_n hx hb dX9_init_4 rfl (lv_at hl 0 rfl) ?_
  refine lv_sipush (v := 800) hx hb dX9_init_5 (by decide) ?_
  refine va_newa (a0 := (800, .inl (fun _ => 0))) (atype := .int) (ty := .int) hx hb (hts (.arrayClass .int) (by first | exact List.mem_of_getElem? (i := 4) rfl | decide +kernel)) rfl hK hP hD hS hA (n := 800) (N' := 800) (newc_I 800) (by decide) (by decide) (by decide) (Nat.le_of_ble_eq_true rfl) (Nat.le_of_ble_eq_true rfl) dX9_init_8 (fun q_1 cA H hK1 hP hD hS => ?_)
  obtain rfl : cA = E.2.1 0 := k_uniq hK hK1 0 5 rfl rfl (fun C h => by cases h)
  refine W.widen (k := 1) (n := 800) (Nat.le_of_ble_eq_true rfl) (Nat.le_of_ble_eq_true rfl) ?_
  have hP : va_P E.1 vwCl [(h0, .inr (9, [.null, .int 0])), (q_1, .inl (E.2.1 0, 800, .inl (fun _ => 0)))] H := hP
  have hD : va_D A [(h0, .inr (9, [.null, .int 0])), (q_1, .inl (E.2.1 0, 800, .inl (fun _ => 0)))] := hD
  refine va_putF (D := E.1) (ci := 9) (v := .ref q_1) (ty := .array .int) (C := RX9) (T := TX9) (N := 2) hx hb hts inX9 tyX9 tyX9_ok nmX9 hown hK hP hD hS 0 rfl rfl 0 (by decide) fl9 (fun _ h9 => h9) rfl hin rfl (by decide +kernel) rfl rfl (Nat.le_of_ble_eq_true rfl) dX9_init_10 (fun H locs hP hD hS => ?_)
  have hP : va_P E.1 vwCl [(h0, .inr (9, [.ref q_1, .int 0])), (q_1, .inl (E.2.1 0, 800, .inl (fun _ => 0)))] H := hP
  have hD : va_D A [(h0, .inr (9, [.ref q_1, .int 0])), (q_1, .inl (E.2.1 0, 800, .inl (fun _ => 0)))] := hD
  refine lv_aload_n hx hb dX9_init_13 rfl (lv_at hl 0 rfl) ?_
  refine lv_iconst (v := 0) hx hb dX9_init_14 (by decide) ?_
  refine va_put (D := E.1) (ci := 9) (v := .int 0) (ty := .int) (C := RX9) (T := TX9) (N := 2) hx hb hts inX9 tyX9 tyX9_ok nmX9 hown hK hP hD hS 0 rfl rfl 1 (by decide) fl15 (fun _ h9 => h9) rfl (by decide +kernel) rfl rfl (Nat.le_of_ble_eq_true rfl) dX9_init_15 (fun H locs hP hD hS => ?_)
  have hP : va_P E.1 vwCl [(h0, .inr (9, [.ref q_1, .int 0])), (q_1, .inl (E.2.1 0, 800, .inl (fun _ => 0)))] H := hP
  have hD : va_D A [(h0, .inr (9, [.ref q_1, .int 0])), (q_1, .inl (E.2.1 0, 800, .inl (fun _ => 0)))] := hD
  have hP9 := hP.sub (ws' := [(h0, .inr (9, [.ref q_1, .int 0])), (q_1, .inl (E.2.1 0, 800, .inl (fun _ => 0)))]) [0, 1] rfl
  have hD9 := hD.sub (ws' := [(h0, .inr (9, [.ref q_1, .int 0])), (q_1, .inl (E.2.1 0, 800, .inl (fun _ => 0)))]) [0, 1] (by decide) rfl
  exact W.vret hx hb hr (fun t ht hW => ⟨⟨(), rfl, trivial, q_1, by rw [ht]; exact hP9, hD9⟩, hS.F ht⟩) hS.2.2 dX9_init_18
set_option maxHeartbeats 4000000 in
set_option maxRecDepth 100000 in
theorem c_X10_init (l : Launch) (E : vE) (h0 : Nat) (tp : Nat) (sz : Nat) : Met l yX10_init wsX10_init ({ frames := 1, cells := 0, slots := 0, locals := 12 }) (pcW E [.ref h0, .ref tp] sz [(h0, .inr (10, [.null, .int 0, .int 0, .int 0, .int 0]))]) (va_Qv (fun (_ : Unit) => True) (fun (_ : Unit) (t : State) => wB E (va_A [(h0, .inr (10, [.null, .int 0, .int 0, .int 0, .int 0]))] sz) [(h0, .inr (10, [.ref tp, .int 0, .int 0, .int 0, .int 0]))] t) (va_A [(h0, .inr (10, [.null, .int 0, .int 0, .int 0, .int 0]))] sz)) 0 0 (va_A [(h0, .inr (10, [.null, .int 0, .int 0, .int 0, .int 0]))] sz) := by
  refine Met.ofW (cc := cX10_init) (maxL := 2) (ret := none) (by decide) rfl ?_
  intro p e s m args below meth c s₁ B hml hv
  obtain ⟨rfl, hsz, hP, hkn, hD0, hst⟩ := hv
  have hx := B.exec
  have hb := B.bytes
  have hr := B.returns
  have hts := atoms_spec (ws := wsX10_init) B.pre
  have hown : s.vm.findClass RX10 = some m.cls := findClass_of_methodNamed B.named
  have hlocks := B.notSynchronized
  have hin : meth.name = "<init>" := (name_of_methodNamed B.named B.method).1
  subst hsz
  have hD := hD0.self (sz := s.heap.size)
  have hK := hkn.1
  have hAO := hkn.2.2.1
  generalize hAe : va_A [(h0, .inr (10, [.null, .int 0, .int 0, .int 0, .int 0]))] s.heap.size = A at hD hst ⊢
  have hA : ∀ q : Nat, s.heap.size ≤ q → A q := fun q h => by rw [← hAe]; exact Or.inr h
  have hS : va_S A s.heap s.heap [] := va_S.rf
  have hP : va_P E.1 vwCl [(h0, .inr (10, [.null, .int 0, .int 0, .int 0, .int 0]))] s.heap := hP
  have hl := lv_entry ([.ref h0, .ref tp]) (n := 2) (Nat.le_of_ble_eq_true rfl)
  rw [lg_entry_eq]
  generalize (lg_sl ([.ref h0, .ref tp]) ++ List.replicate (2 - (lg_sl ([.ref h0, .ref tp])).length) Slot.unset).toArray = ls at hl ⊢
  have hl : lv_has ls 2 [(0, .ref h0), (1, .ref tp)] := hl
  have fl11 := hts (.fieldLink RX10 11 "BoatsHome$Tokens" "kind" "I") (by first | exact List.mem_of_getElem? (i := 4) rfl | decide +kernel)
  have fl15 := hts (.fieldLink RX10 15 "BoatsHome$Tokens" "start" "I") (by first | exact List.mem_of_getElem? (i := 5) rfl | decide +kernel)
  have fl18 := hts (.fieldLink RX10 18 "BoatsHome$Tokens" "number" "I") (by first | exact List.mem_of_getElem? (i := 6) rfl | decide +kernel)
  have fl21 := hts (.fieldLink RX10 21 "BoatsHome$Tokens" "behind" "I") (by first | exact List.mem_of_getElem? (i := 7) rfl | decide +kernel)
  have fl24 := hts (.fieldLink RX10 24 "BoatsHome$Tokens" "tape" "LBoatsHome$Tape;") (by first | exact List.mem_of_getElem? (i := 8) rfl | decide +kernel)
  have inX10 : ∀ w ∈ u_ws RX10 TX10 5, w ∈ wsX10_init := by first | exact fun w h9 => (List.mem_cons_of_mem _ (List.mem_append_right _ h9)) | decide +kernel
  refine lv_aload_n hx hb dX10_init_0 rfl (lv_at hl 0 rfl) ?_
  refine W.objInit hx hb hown (hts (.methodLink RX10 3 objectInit) (by first | exact List.mem_of_getElem? (i := 1) rfl | decide +kernel)) (hts (.instanceMethod objectInit) (by first | exact List.mem_of_getElem? (i := 2) rfl | decide +kernel)) (hts (.code objectInit ⟨#[0xb1]⟩ 1 none) (by first | exact List.mem_of_getElem? (i := 3) rfl | decide +kernel)) rfl (by rw [hml]; exact hl.1) rfl dX10_init_1 (Nat.le_of_ble_eq_true rfl) (Nat.le_of_ble_eq_true rfl) ?_
  refine W.eq (g2 := F0 m 4 ls []) rfl ?_
  refine lv_aload_n hx hb dX10_init_4 rfl (lv_at hl 0 rfl) ?_
  refine lv_iconst (v := 0) hx hb dX10_init_5 (by decide) ?_
  refine va_put (D := E.1) (ci := 10) (v := .int 0) (ty := .int) (C := RX10) (T := TX10) (N := 5) hx hb hts inX10 tyX10 tyX10_ok nmX10 hown hK hP hD hS 0 rfl rfl 1 (by decide) fl11 (fun _ h9 => h9) rfl (by decide +kernel) rfl rfl (Nat.le_of_ble_eq_true rfl) dX10_init_6 (fun H locs hP hD hS => ?_)
  have hP : va_P E.1 vwCl [(h0, .inr (10, [.null, .int 0, .int 0, .int 0, .int 0]))] H := hP
  have hD : va_D A [(h0, .inr (10, [.null, .int 0, .int 0, .int 0, .int 0]))] := hD
  refine lv_aload_n hx hb dX10_init_9 rfl (lv_at hl 0 rfl) ?_
  refine lv_iconst (v := 0) hx hb dX10_init_10 (by decide) ?_
  refine va_put (D := E.1) (ci := 10) (v := .int 0) (ty := .int) (C := RX10) (T := TX10) (N := 5) hx hb hts inX10 tyX10 tyX10_ok nmX10 hown hK hP hD hS 0 rfl rfl 2 (by decide) fl15 (fun _ h9 => h9) rfl (by decide +kernel) rfl rfl (Nat.le_of_ble_eq_true rfl) dX10_init_11 (fun H locs hP hD hS => ?_)
  have hP : va_P E.1 vwCl [(h0, .inr (10, [.null, .int 0, .int 0, .int 0, .int 0]))] H := hP
  have hD : va_D A [(h0, .inr (10, [.null, .int 0, .int 0, .int 0, .int 0]))] := hD
  refine lv_aload_n hx hb dX10_init_14 rfl (lv_at hl 0 rfl) ?_
  refine lv_iconst (v := 0) hx hb dX10_init_15 (by decide) ?_
  refine va_put (D := E.1) (ci := 10) (v := .int 0) (ty := .int) (C := RX10) (T := TX10) (N := 5) hx hb hts inX10 tyX10 tyX10_ok nmX10 hown hK hP hD hS 0 rfl rfl 3 (by decide) fl18 (fun _ h9 => h9) rfl (by decide +kernel) rfl rfl (Nat.le_of_ble_eq_true rfl) dX10_init_16 (fun H locs hP hD hS => ?_)
  have hP : va_P E.1 vwCl [(h0, .inr (10, [.null, .int 0, .int 0, .int 0, .int 0]))] H := hP
  have hD : va_D A [(h0, .inr (10, [.null, .int 0, .int 0, .int 0, .int 0]))] := hD
  refine lv_aload_n hx hb dX10_init_19 rfl (lv_at hl 0 rfl) ?_
  refine lv_iconst (v := 0) hx hb dX10_init_20 (by decide) ?_
  refine va_put (D := E.1) (ci := 10) (v := .int 0) (ty := .int) (C := RX10) (T := TX10) (N := 5) hx hb hts inX10 tyX10 tyX10_ok nmX10 hown hK hP hD hS 0 rfl rfl 4 (by decide) fl21 (fun _ h9 => h9) rfl (by decide +kernel) rfl rfl (Nat.le_of_ble_eq_true rfl) dX10_init_21 (fun H locs hP hD hS => ?_)
  have hP : va_P E.1 vwCl [(h0, .inr (10, [.null, .int 0, .int 0, .int 0, .int 0]))] H := hP
  have hD : va_D A [(h0, .inr (10, [.null, .int 0, .int 0, .int 0, .int 0]))] := hD
  refine lv_aload_n hx hb dX10_init_24 rfl (lv_at hl 0 rfl) ?_
  refine lv_aload_n hx hb dX10_init_25 rfl (lv_at hl 1 rfl) ?_
  refine va_putF (D := E.1) (ci := 10) (v := .ref tp) (ty := .object "BoatsHome$Tape") (C := RX10) (T := TX10) (N := 5) hx hb hts inX10 tyX10 tyX10_ok nmX10 hown hK hP hD hS 0 rfl rfl 0 (by decide) fl24 (fun _ h9 => h9) rfl hin rfl (by decide +kernel) rfl rfl (Nat.le_of_ble_eq_true rfl) dX10_init_26 (fun H locs hP hD hS => ?_)
  have hP : va_P E.1 vwCl [(h0, .inr (10, [.ref tp, .int 0, .int 0, .int 0, .int 0]))] H := hP
  have hD : va_D A [(h0, .inr (10, [.ref tp, .int 0, .int 0, .int 0, .int 0]))] := hD
  have hP9 := hP.sub (ws' := [(h0, .inr (10, [.ref tp, .int 0, .int 0, .int 0, .int 0]))]) [0] rfl
  have hD9 := hD.sub (ws' := [(h0, .inr (10, [.ref tp, .int 0, .int 0, .int 0, .int 0]))]) [0] (by decide) rfl
  exact W.vret hx hb hr (fun t ht hW => ⟨⟨(), rfl, trivial, by rw [ht]; exact hP9, hD9⟩, hS.F ht⟩) hS.2.2 dX10_init_29
set_option maxHeartbeats 4000000 in
set_option maxRecDepth 100000 in
theorem c_X6_init (l : Launch) (E : vE) (h0 : Nat) (tp : Nat) (sz : Nat) : Met l yX6_init wsX6_init ({ frames := 2, cells := 1, slots := 5, locals := 33 }) (pcW E [.ref h0, .ref tp] sz [(h0, .inr (6, [.null, .int 0, .int 0]))]) (va_Qv (fun (_ : Unit) => True) (fun (_ : Unit) (t : State) => ∃ (q1 : Nat), wB E (va_A [(h0, .inr (6, [.null, .int 0, .int 0]))] sz) [(h0, .inr (6, [.ref q1, .int 0, .int (-1)])), (q1, .inr (10, [.ref tp, .int 0, .int 0, .int 0, .int 0]))] t) (va_A [(h0, .inr (6, [.null, .int 0, .int 0]))] sz)) 1 5 (va_A [(h0, .inr (6, [.null, .int 0, .int 0]))] sz) := by
  refine Met.ofW (cc := cX6_init) (maxL := 2) (ret := none) (by decide) rfl ?_
  intro p e s m args below meth c s₁ B hml hv
  obtain ⟨rfl, hsz, hP, hkn, hD0, hst⟩ := hv
  have hx := B.exec
  have hb := B.bytes
  have hr := B.returns
  have hts := atoms_spec (ws := wsX6_init) B.pre
  have hown : s.vm.findClass RX6 = some m.cls := findClass_of_methodNamed B.named
  have hlocks := B.notSynchronized
  have hin : meth.name = "<init>" := (name_of_methodNamed B.named B.method).1
  subst hsz
  have hD := hD0.self (sz := s.heap.size)
  have hK := hkn.1
  have hAO := hkn.2.2.1
  generalize hAe : va_A [(h0, .inr (6, [.null, .int 0, .int 0]))] s.heap.size = A at hD hst ⊢
  have hA : ∀ q : Nat, s.heap.size ≤ q → A q := fun q h => by rw [← hAe]; exact Or.inr h
  have hS : va_S A s.heap s.heap [] := va_S.rf
  have hP : va_P E.1 vwCl [(h0, .inr (6, [.null, .int 0, .int 0]))] s.heap := hP
  have hl := lv_entry ([.ref h0, .ref tp]) (n := 2) (Nat.le_of_ble_eq_true rfl)
  rw [lg_entry_eq]
  generalize (lg_sl ([.ref h0, .ref tp]) ++ List.replicate (2 - (lg_sl ([.ref h0, .ref tp])).length) Slot.unset).toArray = ls at hl ⊢
  have hl : lv_has ls 2 [(0, .ref h0), (1, .ref tp)] := hl
  have fl9 := hts (.fieldLink RX6 9 "BoatsHome$Reader" "faultKind" "I") (by first | exact List.mem_of_getElem? (i := 4) rfl | decide +kernel)
  have fl15 := hts (.fieldLink RX6 15 "BoatsHome$Reader" "faultPlace" "I") (by first | exact List.mem_of_getElem? (i := 5) rfl | decide +kernel)
  have fl23 := hts (.fieldLink RX6 23 "BoatsHome$Reader" "tokens" "LBoatsHome$Tokens;") (by first | exact List.mem_of_getElem? (i := 9) rfl | decide +kernel)
  have inX6 : ∀ w ∈ u_ws RX6 TX6 3, w ∈ wsX6_init := by first | exact fun w h9 => (List.mem_cons_of_mem _ (List.mem_append_left _ (List.mem_append_right _ h9))) | decide +kernel
  refine lv_aload_n hx hb dX6_init_0 rfl (lv_at hl 0 rfl) ?_
  refine W.objInit hx hb hown (hts (.methodLink RX6 3 objectInit) (by first | exact List.mem_of_getElem? (i := 1) rfl | decide +kernel)) (hts (.instanceMethod objectInit) (by first | exact List.mem_of_getElem? (i := 2) rfl | decide +kernel)) (hts (.code objectInit ⟨#[0xb1]⟩ 1 none) (by first | exact List.mem_of_getElem? (i := 3) rfl | decide +kernel)) rfl (by rw [hml]; exact hl.1) rfl dX6_init_1 (Nat.le_of_ble_eq_true rfl) (Nat.le_of_ble_eq_true rfl) ?_
  refine W.eq (g2 := F0 m 4 ls []) rfl ?_
  refine lv_aload_n hx hb dX6_init_4 rfl (lv_at hl 0 rfl) ?_
  refine lv_iconst (v := 0) hx hb dX6_init_5 (by decide) ?_
  refine va_put (D := E.1) (ci := 6) (v := .int 0) (ty := .int) (C := RX6) (T := TX6) (N := 3) hx hb hts inX6 tyX6 tyX6_ok nmX6 hown hK hP hD hS 0 rfl rfl 1 (by decide) fl9 (fun _ h9 => h9) rfl (by decide +kernel) rfl rfl (Nat.le_of_ble_eq_true rfl) dX6_init_6 (fun H locs hP hD hS => ?_)
  have hP : va_P E.1 vwCl [(h0, .inr (6, [.null, .int 0, .int 0]))] H := hP
  have hD : va_D A [(h0, .inr (6, [.null, .int 0, .int 0]))] := hD
  refine lv_aload_n hx hb dX6_init_9 rfl (lv_at hl 0 rfl) ?_
  refine lv_iconst (v := (-1)) hx hb dX6_init_10 (by decide) ?_
  refine va_put (D := E.1) (ci := 6) (v := .int (-1)) (ty := .int) (C := RX6) (T := TX6) (N := 3) hx hb hts inX6 tyX6 tyX6_ok nmX6 hown hK hP hD hS 0 rfl rfl 2 (by decide) fl15 (fun _ h9 => h9) rfl (by decide +kernel) rfl rfl (Nat.le_of_ble_eq_true rfl) dX6_init_11 (fun H locs hP hD hS => ?_)
  have hP : va_P E.1 vwCl [(h0, .inr (6, [.null, .int 0, .int (-1)]))] H := hP
  have hD : va_D A [(h0, .inr (6, [.null, .int 0, .int (-1)]))] := hD
  refine lv_aload_n hx hb dX6_init_14 rfl (lv_at hl 0 rfl) ?_
  have inX10 : ∀ w ∈ u_ws RX10 TX10 5, w ∈ wsX6_init := by first | exact fun w h9 => (List.mem_cons_of_mem _ (List.mem_append_right _ h9)) | decide +kernel
  refine va_new (ci := 10) (fs := [.null, .int 0, .int 0, .int 0, .int 0]) (C := RX10) (T := TX10) (N := 5) hx hb hts inX10 tyX10 tyX10_ok hown (hts (.classLink RX6 18 RX10) (by first | exact List.mem_of_getElem? (i := 6) rfl | decide +kernel)) (hts (.instantiable RX10 5) (by first | exact List.mem_of_getElem? (i := 7) rfl | decide +kernel)) (hts (.initialized RX10) (by first | exact List.mem_of_getElem? (i := 8) rfl | decide +kernel)) hK hP hD hS hA rfl (by decide +kernel) (Nat.le_of_ble_eq_true rfl) (Nat.le_of_ble_eq_true rfl) dX6_init_15 (fun q_1 H hP hD hS => ?_)
  refine W.widen (k := 1) (n := 5) (Nat.le_of_ble_eq_true rfl) (Nat.le_of_ble_eq_true rfl) ?_
  have hP : va_P E.1 vwCl [(h0, .inr (6, [.null, .int 0, .int (-1)])), (q_1, .inr (10, [.null, .int 0, .int 0, .int 0, .int 0]))] H := hP
  have hD : va_D A [(h0, .inr (6, [.null, .int 0, .int (-1)])), (q_1, .inr (10, [.null, .int 0, .int 0, .int 0, .int 0]))] := hD
  refine lv_dup hx hb dX6_init_18 rfl ?_
  refine lv_aload_n hx hb dX6_init_19 rfl (lv_at hl 1 rfl) ?_
  have hPc := hP.sub (ws' := [(q_1, .inr (10, [.null, .int 0, .int 0, .int 0, .int 0]))]) [1] rfl
  have hDc := hD.sub (ws' := [(q_1, .inr (10, [.null, .int 0, .int 0, .int 0, .int 0]))]) [1] (by decide) rfl
  have hFc := va_free (wc := [(q_1, .inr (10, [.null, .int 0, .int 0, .int 0, .int 0]))]) hD hS hA [1] rfl
  refine va_callv (va_runI (As := [.ref tp]) (rest := [.ref q_1, .ref h0]) ⟨hx, hb, hml, hown, hts⟩ (c_X10_init l E q_1 tp H.size ) (cwI 1 hts gX6_init_X10_init rfl rfl rfl (hts (.initialized RX10) (by first | exact List.mem_of_getElem? (i := 8) rfl | decide +kernel)) (hts (.methodLink RX6 20 yX10_init) (by first | exact List.mem_of_getElem? (i := 10) rfl | decide +kernel)) (hts (.instanceMethod yX10_init) (by first | exact List.mem_of_getElem? (i := 11) rfl | decide +kernel)) rfl (by decide +kernel) ⟨Nat.le_of_ble_eq_true rfl, Nat.le_of_ble_eq_true rfl⟩) ⟨pcW_blind, (pcW_pre hPc hkn hDc hst hS hFc)⟩ rfl rfl hl.1 rfl (lv_room (Nat.le_of_ble_eq_true rfl)) dX6_init_20 ⟨Nat.le_of_ble_eq_true rfl, Nat.le_of_ble_eq_true rfl⟩) hS (fun q _ h => hFc q h) hFc (fun u t H1 locs ht hvm hw_3 hB hz1 hk1 hS => ?_)
  obtain ⟨hP1, hD1⟩ := hB
  rw [ht] at hP1
  try dsimp only at hw_3
  obtain ⟨hP, hD⟩ := va_join (wr := [(h0, .inr (6, [.null, .int 0, .int (-1)]))]) (w1 := [(q_1, .inr (10, [.ref tp, .int 0, .int 0, .int 0, .int 0]))]) hP hD [1] [0] rfl rfl (by decide) (by decide) hk1 hFc hP1 hD1
  generalize H1 = H at hP hS ⊢
  have hP : va_P E.1 vwCl [(h0, .inr (6, [.null, .int 0, .int (-1)])), (q_1, .inr (10, [.ref tp, .int 0, .int 0, .int 0, .int 0]))] H := hP
  have hD : va_D A [(h0, .inr (6, [.null, .int 0, .int (-1)])), (q_1, .inr (10, [.ref tp, .int 0, .int 0, .int 0, .int 0]))] := hD
  refine va_putF (D := E.1) (ci := 6) (v := .ref q_1) (ty := .object "BoatsHome$Tokens") (C := RX6) (T := TX6) (N := 3) hx hb hts inX6 tyX6 tyX6_ok nmX6 hown hK hP hD hS 0 rfl rfl 0 (by decide) fl23 (fun _ h9 => h9) rfl hin rfl (by decide +kernel) rfl rfl (Nat.le_of_ble_eq_true rfl) dX6_init_23 (fun H locs hP hD hS => ?_)
  have hP : va_P E.1 vwCl [(h0, .inr (6, [.ref q_1, .int 0, .int (-1)])), (q_1, .inr (10, [.ref tp, .int 0, .int 0, .int 0, .int 0]))] H := hP
  have hD : va_D A [(h0, .inr (6, [.ref q_1, .int 0, .int (-1)])), (q_1, .inr (10, [.ref tp, .int 0, .int 0, .int 0, .int 0]))] := hD
  have hP9 := hP.sub (ws' := [(h0, .inr (6, [.ref q_1, .int 0, .int (-1)])), (q_1, .inr (10, [.ref tp, .int 0, .int 0, .int 0, .int 0]))]) [0, 1] rfl
  have hD9 := hD.sub (ws' := [(h0, .inr (6, [.ref q_1, .int 0, .int (-1)])), (q_1, .inr (10, [.ref tp, .int 0, .int 0, .int 0, .int 0]))]) [0, 1] (by decide) rfl
  exact W.vret hx hb hr (fun t ht hW => ⟨⟨(), rfl, trivial, q_1, by rw [ht]; exact hP9, hD9⟩, hS.F ht⟩) hS.2.2 dX6_init_26
set_option maxHeartbeats 4000000 in
set_option maxRecDepth 100000 in
theorem c_X8_init (l : Launch) (E : vE) (h0 : Nat) (sz : Nat) : Met l yX8_init wsX8_init ({ frames := 1, cells := 2, slots := 298, locals := 12 }) (pcW E [.ref h0] sz [(h0, .inr (8, [.null, .null]))]) (va_Qv (fun (_ : Unit) => True) (fun (_ : Unit) (t : State) => ∃ (q1 : Nat), ∃ (q2 : Nat), wB E (va_A [(h0, .inr (8, [.null, .null]))] sz) [(h0, .inr (8, [.ref q1, .ref q2])), (q1, .inl (E.2.1 0, 288, .inl (fun _ => 0))), (q2, .inl (E.2.1 0, 10, .inl (fun _ => 0)))] t) (va_A [(h0, .inr (8, [.null, .null]))] sz)) 2 298 (va_A [(h0, .inr (8, [.null, .null]))] sz) := by
  refine Met.ofW (cc := cX8_init) (maxL := 1) (ret := none) (by decide) rfl ?_
  intro p e s m args below meth c s₁ B hml hv
  obtain ⟨rfl, hsz, hP, hkn, hD0, hst⟩ := hv
  have hx := B.exec
  have hb := B.bytes
  have hr := B.returns
  have hts := atoms_spec (ws := wsX8_init) B.pre
  have hown : s.vm.findClass RX8 = some m.cls := findClass_of_methodNamed B.named
  have hlocks := B.notSynchronized
  have hin : meth.name = "<init>" := (name_of_methodNamed B.named B.method).1
  subst hsz
  have hD := hD0.self (sz := s.heap.size)
  have hK := hkn.1
  have hAO := hkn.2.2.1
  generalize hAe : va_A [(h0, .inr (8, [.null, .null]))] s.heap.size = A at hD hst ⊢
  have hA : ∀ q : Nat, s.heap.size ≤ q → A q := fun q h => by rw [← hAe]; exact Or.inr h
  have hS : va_S A s.heap s.heap [] := va_S.rf
  have hP : va_P E.1 vwCl [(h0, .inr (8, [.null, .null]))] s.heap := hP
  have hl := lv_entry ([.ref h0]) (n := 1) (Nat.le_of_ble_eq_true rfl)
  rw [lg_entry_eq]
  generalize (lg_sl ([.ref h0]) ++ List.replicate (1 - (lg_sl ([.ref h0])).length) Slot.unset).toArray = ls at hl ⊢
  have hl : lv_has ls 1 [(0, .ref h0)] := hl
  have fl9 := hts (.fieldLink RX8 9 "BoatsHome$Sea" "winds" "[I") (by first | exact List.mem_of_getElem? (i := 5) rfl | decide +kernel)
  have fl15 := hts (.fieldLink RX8 15 "BoatsHome$Sea" "ports" "[I") (by first | exact List.mem_of_getElem? (i := 6) rfl | decide +kernel)
  have inX8 : ∀ w ∈ u_ws RX8 TX8 2, w ∈ wsX8_init := by first | exact fun w h9 => (List.mem_cons_of_mem _ (List.mem_append_right _ h9)) | decide +kernel
  refine lv_aload_n hx hb dX8_init_0 rfl (lv_at hl 0 rfl) ?_
  refine W.objInit hx hb hown (hts (.methodLink RX8 3 objectInit) (by first | exact List.mem_of_getElem? (i := 1) rfl | decide +kernel)) (hts (.instanceMethod objectInit) (by first | exact List.mem_of_getElem? (i := 2) rfl | decide +kernel)) (hts (.code objectInit ⟨#[0xb1]⟩ 1 none) (by first | exact List.mem_of_getElem? (i := 3) rfl | decide +kernel)) rfl (by rw [hml]; exact hl.1) rfl dX8_init_1 (Nat.le_of_ble_eq_true rfl) (Nat.le_of_ble_eq_true rfl) ?_
  refine W.eq (g2 := F0 m 4 ls []) rfl ?_
  refine lv_aload_n hx hb dX8_init_4 rfl (lv_at hl 0 rfl) ?_
  refine lv_sipush (v := 288) hx hb dX8_init_5 (by decide) ?_
  refine va_newa (a0 := (288, .inl (fun _ => 0))) (atype := .int) (ty := .int) hx hb (hts (.arrayClass .int) (by first | exact List.mem_of_getElem? (i := 4) rfl | decide +kernel)) rfl hK hP hD hS hA (n := 288) (N' := 288) (newc_I 288) (by decide) (by decide) (by decide) (Nat.le_of_ble_eq_true rfl) (Nat.le_of_ble_eq_true rfl) dX8_init_8 (fun q_1 cA H hK1 hP hD hS => ?_)
  obtain rfl : cA = E.2.1 0 := k_uniq hK hK1 0 5 rfl rfl (fun C h => by cases h)
  refine W.widen (k := 1) (n := 288) (Nat.le_of_ble_eq_true rfl) (Nat.le_of_ble_eq_true rfl) ?_
  have hP : va_P E.1 vwCl [(h0, .inr (8, [.null, .null])), (q_1, .inl (E.2.1 0, 288, .inl (fun _ => 0)))] H := hP
  have hD : va_D A [(h0, .inr (8, [.null, .null])), (q_1, .inl (E.2.1 0, 288, .inl (fun _ => 0)))] := hD
  refine va_putF (D := E.1) (ci := 8) (v := .ref q_1) (ty := .array .int) (C := RX8) (T := TX8) (N := 2) hx hb hts inX8 tyX8 tyX8_ok nmX8 hown hK hP hD hS 0 rfl rfl 0 (by decide) fl9 (fun _ h9 => h9) rfl hin rfl (by decide +kernel) rfl rfl (Nat.le_of_ble_eq_true rfl) dX8_init_10 (fun H locs hP hD hS => ?_)
  have hP : va_P E.1 vwCl [(h0, .inr (8, [.ref q_1, .null])), (q_1, .inl (E.2.1 0, 288, .inl (fun _ => 0)))] H := hP
  have hD : va_D A [(h0, .inr (8, [.ref q_1, .null])), (q_1, .inl (E.2.1 0, 288, .inl (fun _ => 0)))] := hD
  refine lv_aload_n hx hb dX8_init_13 rfl (lv_at hl 0 rfl) ?_
  refine lv_bipush (v := 10) hx hb dX8_init_14 (by decide) ?_
  refine va_newa (a0 := (10, .inl (fun _ => 0))) (atype := .int) (ty := .int) hx hb (hts (.arrayClass .int) (by first | exact List.mem_of_getElem? (i := 4) rfl | decide +kernel)) rfl hK hP hD hS hA (n := 10) (N' := 10) (newc_I 10) (by decide) (by decide) (by decide) (Nat.le_of_ble_eq_true rfl) (Nat.le_of_ble_eq_true rfl) dX8_init_16 (fun q_2 cA H hK1 hP hD hS => ?_)
  obtain rfl : cA = E.2.1 0 := k_uniq hK hK1 0 5 rfl rfl (fun C h => by cases h)
  refine W.widen (k := 2) (n := 298) (Nat.le_of_ble_eq_true rfl) (Nat.le_of_ble_eq_true rfl) ?_
  have hP : va_P E.1 vwCl [(h0, .inr (8, [.ref q_1, .null])), (q_1, .inl (E.2.1 0, 288, .inl (fun _ => 0))), (q_2, .inl (E.2.1 0, 10, .inl (fun _ => 0)))] H := hP
  have hD : va_D A [(h0, .inr (8, [.ref q_1, .null])), (q_1, .inl (E.2.1 0, 288, .inl (fun _ => 0))), (q_2, .inl (E.2.1 0, 10, .inl (fun _ => 0)))] := hD
  refine va_putF (D := E.1) (ci := 8) (v := .ref q_2) (ty := .array .int) (C := RX8) (T := TX8) (N := 2) hx hb hts inX8 tyX8 tyX8_ok nmX8 hown hK hP hD hS 0 rfl rfl 1 (by decide) fl15 (fun _ h9 => h9) rfl hin rfl (by decide +kernel) rfl rfl (Nat.le_of_ble_eq_true rfl) dX8_init_18 (fun H locs hP hD hS => ?_)
  have hP : va_P E.1 vwCl [(h0, .inr (8, [.ref q_1, .ref q_2])), (q_1, .inl (E.2.1 0, 288, .inl (fun _ => 0))), (q_2, .inl (E.2.1 0, 10, .inl (fun _ => 0)))] H := hP
  have hD : va_D A [(h0, .inr (8, [.ref q_1, .ref q_2])), (q_1, .inl (E.2.1 0, 288, .inl (fun _ => 0))), (q_2, .inl (E.2.1 0, 10, .inl (fun _ => 0)))] := hD
  have hP9 := hP.sub (ws' := [(h0, .inr (8, [.ref q_1, .ref q_2])), (q_1, .inl (E.2.1 0, 288, .inl (fun _ => 0))), (q_2, .inl (E.2.1 0, 10, .inl (fun _ => 0)))]) [0, 1, 2] rfl
  have hD9 := hD.sub (ws' := [(h0, .inr (8, [.ref q_1, .ref q_2])), (q_1, .inl (E.2.1 0, 288, .inl (fun _ => 0))), (q_2, .inl (E.2.1 0, 10, .inl (fun _ => 0)))]) [0, 1, 2] (by decide) rfl
  exact W.vret hx hb hr (fun t ht hW => ⟨⟨(), rfl, trivial, q_1, q_2, by rw [ht]; exact hP9, hD9⟩, hS.F ht⟩) hS.2.2 dX8_init_21
set_option maxHeartbeats 4000000 in
set_option maxRecDepth 100000 in
theorem c_X7_init (l : Launch) (E : vE) (h0 : Nat) (sz : Nat) : Met l yX7_init wsX7_init ({ frames := 1, cells := 4, slots := 48, locals := 12 }) (pcW E [.ref h0] sz [(h0, .inr (7, [.null, .null, .null, .null, .int 0]))]) (va_Qv (fun (_ : Unit) => True) (fun (_ : Unit) (t : State) => ∃ (q1 : Nat), ∃ (q2 : Nat), ∃ (q3 : Nat), ∃ (q4 : Nat), wB E (va_A [(h0, .inr (7, [.null, .null, .null, .null, .int 0]))] sz) [(h0, .inr (7, [.ref q1, .ref q2, .ref q3, .ref q4, .int 0])), (q1, .inl (E.2.1 0, 12, .inl (fun _ => 0))), (q2, .inl (E.2.1 1, 12, .inl (fun _ => 0))), (q3, .inl (E.2.1 0, 12, .inl (fun _ => 0))), (q4, .inl (E.2.1 0, 12, .inl (fun _ => 0)))] t) (va_A [(h0, .inr (7, [.null, .null, .null, .null, .int 0]))] sz)) 4 48 (va_A [(h0, .inr (7, [.null, .null, .null, .null, .int 0]))] sz) := by
  refine Met.ofW (cc := cX7_init) (maxL := 1) (ret := none) (by decide) rfl ?_
  intro p e s m args below meth c s₁ B hml hv
  obtain ⟨rfl, hsz, hP, hkn, hD0, hst⟩ := hv
  have hx := B.exec
  have hb := B.bytes
  have hr := B.returns
  have hts := atoms_spec (ws := wsX7_init) B.pre
  have hown : s.vm.findClass RX7 = some m.cls := findClass_of_methodNamed B.named
  have hlocks := B.notSynchronized
  have hin : meth.name = "<init>" := (name_of_methodNamed B.named B.method).1
  subst hsz
  have hD := hD0.self (sz := s.heap.size)
  have hK := hkn.1
  have hAO := hkn.2.2.1
  generalize hAe : va_A [(h0, .inr (7, [.null, .null, .null, .null, .int 0]))] s.heap.size = A at hD hst ⊢
  have hA : ∀ q : Nat, s.heap.size ≤ q → A q := fun q h => by rw [← hAe]; exact Or.inr h
  have hS : va_S A s.heap s.heap [] := va_S.rf
  have hP : va_P E.1 vwCl [(h0, .inr (7, [.null, .null, .null, .null, .int 0]))] s.heap := hP
  have hl := lv_entry ([.ref h0]) (n := 1) (Nat.le_of_ble_eq_true rfl)
  rw [lg_entry_eq]
  generalize (lg_sl ([.ref h0]) ++ List.replicate (1 - (lg_sl ([.ref h0])).length) Slot.unset).toArray = ls at hl ⊢
  have hl : lv_has ls 1 [(0, .ref h0)] := hl
  have fl9 := hts (.fieldLink RX7 9 "BoatsHome$Rules" "seen" "[I") (by first | exact List.mem_of_getElem? (i := 5) rfl | decide +kernel)
  have fl15 := hts (.fieldLink RX7 15 "BoatsHome$Rules" "above" "[Z") (by first | exact List.mem_of_getElem? (i := 7) rfl | decide +kernel)
  have fl19 := hts (.fieldLink RX7 19 "BoatsHome$Rules" "bounds" "[I") (by first | exact List.mem_of_getElem? (i := 8) rfl | decide +kernel)
  have fl22 := hts (.fieldLink RX7 22 "BoatsHome$Rules" "acts" "[I") (by first | exact List.mem_of_getElem? (i := 9) rfl | decide +kernel)
  have fl25 := hts (.fieldLink RX7 25 "BoatsHome$Rules" "size" "I") (by first | exact List.mem_of_getElem? (i := 10) rfl | decide +kernel)
  have inX7 : ∀ w ∈ u_ws RX7 TX7 5, w ∈ wsX7_init := by first | exact fun w h9 => (List.mem_cons_of_mem _ (List.mem_append_right _ h9)) | decide +kernel
  refine lv_aload_n hx hb dX7_init_0 rfl (lv_at hl 0 rfl) ?_
  refine W.objInit hx hb hown (hts (.methodLink RX7 3 objectInit) (by first | exact List.mem_of_getElem? (i := 1) rfl | decide +kernel)) (hts (.instanceMethod objectInit) (by first | exact List.mem_of_getElem? (i := 2) rfl | decide +kernel)) (hts (.code objectInit ⟨#[0xb1]⟩ 1 none) (by first | exact List.mem_of_getElem? (i := 3) rfl | decide +kernel)) rfl (by rw [hml]; exact hl.1) rfl dX7_init_1 (Nat.le_of_ble_eq_true rfl) (Nat.le_of_ble_eq_true rfl) ?_
  refine W.eq (g2 := F0 m 4 ls []) rfl ?_
  refine lv_aload_n hx hb dX7_init_4 rfl (lv_at hl 0 rfl) ?_
  refine lv_bipush (v := 12) hx hb dX7_init_5 (by decide) ?_
  refine va_newa (a0 := (12, .inl (fun _ => 0))) (atype := .int) (ty := .int) hx hb (hts (.arrayClass .int) (by first | exact List.mem_of_getElem? (i := 4) rfl | decide +kernel)) rfl hK hP hD hS hA (n := 12) (N' := 12) (newc_I 12) (by decide) (by decide) (by decide) (Nat.le_of_ble_eq_true rfl) (Nat.le_of_ble_eq_true rfl) dX7_init_7 (fun q_1 cA H hK1 hP hD hS => ?_)
  obtain rfl : cA = E.2.1 0 := k_uniq hK hK1 0 5 rfl rfl (fun C h => by cases h)
  refine W.widen (k := 1) (n := 12) (Nat.le_of_ble_eq_true rfl) (Nat.le_of_ble_eq_true rfl) ?_
  have hP : va_P E.1 vwCl [(h0, .inr (7, [.null, .null, .null, .null, .int 0])), (q_1, .inl (E.2.1 0, 12, .inl (fun _ => 0)))] H := hP
  have hD : va_D A [(h0, .inr (7, [.null, .null, .null, .null, .int 0])), (q_1, .inl (E.2.1 0, 12, .inl (fun _ => 0)))] := hD
  refine va_putF (D := E.1) (ci := 7) (v := .ref q_1) (ty := .array .int) (C := RX7) (T := TX7) (N := 5) hx hb hts inX7 tyX7 tyX7_ok nmX7 hown hK hP hD hS 0 rfl rfl 0 (by decide) fl9 (fun _ h9 => h9) rfl hin rfl (by decide +kernel) rfl rfl (Nat.le_of_ble_eq_true rfl) dX7_init_9 (fun H locs hP hD hS => ?_)
  have hP : va_P E.1 vwCl [(h0, .inr (7, [.ref q_1, .null, .null, .null, .int 0])), (q_1, .inl (E.2.1 0, 12, .inl (fun _ => 0)))] H := hP
  have hD : va_D A [(h0, .inr (7, [.ref q_1, .null, .null, .null, .int 0])), (q_1, .inl (E.2.1 0, 12, .inl (fun _ => 0)))] := hD
  refine lv_aload_n hx hb dX7_init_12 rfl (lv_at hl 0 rfl) ?_
  refine lv_bipush (v := 12) hx hb dX7_init_13 (by decide) ?_
  refine va_newa (a0 := (12, .inl (fun _ => 0))) (atype := .boolean) (ty := .boolean) hx hb (hts (.arrayClass .boolean) (by first | exact List.mem_of_getElem? (i := 6) rfl | decide +kernel)) rfl hK hP hD hS hA (n := 12) (N' := 12) (newc_Z 12) (by decide) (by decide) (by decide) (Nat.le_of_ble_eq_true rfl) (Nat.le_of_ble_eq_true rfl) dX7_init_15 (fun q_2 cA H hK1 hP hD hS => ?_)
  obtain rfl : cA = E.2.1 1 := k_uniq hK hK1 1 5 rfl rfl (fun C h => by cases h)
  refine W.widen (k := 2) (n := 24) (Nat.le_of_ble_eq_true rfl) (Nat.le_of_ble_eq_true rfl) ?_
  have hP : va_P E.1 vwCl [(h0, .inr (7, [.ref q_1, .null, .null, .null, .int 0])), (q_1, .inl (E.2.1 0, 12, .inl (fun _ => 0))), (q_2, .inl (E.2.1 1, 12, .inl (fun _ => 0)))] H := hP
  have hD : va_D A [(h0, .inr (7, [.ref q_1, .null, .null, .null, .int 0])), (q_1, .inl (E.2.1 0, 12, .inl (fun _ => 0))), (q_2, .inl (E.2.1 1, 12, .inl (fun _ => 0)))] := hD
  refine va_putF (D := E.1) (ci := 7) (v := .ref q_2) (ty := .array .boolean) (C := RX7) (T := TX7) (N := 5) hx hb hts inX7 tyX7 tyX7_ok nmX7 hown hK hP hD hS 0 rfl rfl 1 (by decide) fl15 (fun _ h9 => h9) rfl hin rfl (by decide +kernel) rfl rfl (Nat.le_of_ble_eq_true rfl) dX7_init_17 (fun H locs hP hD hS => ?_)
  have hP : va_P E.1 vwCl [(h0, .inr (7, [.ref q_1, .ref q_2, .null, .null, .int 0])), (q_1, .inl (E.2.1 0, 12, .inl (fun _ => 0))), (q_2, .inl (E.2.1 1, 12, .inl (fun _ => 0)))] H := hP
  have hD : va_D A [(h0, .inr (7, [.ref q_1, .ref q_2, .null, .null, .int 0])), (q_1, .inl (E.2.1 0, 12, .inl (fun _ => 0))), (q_2, .inl (E.2.1 1, 12, .inl (fun _ => 0)))] := hD
  refine lv_aload_n hx hb dX7_init_20 rfl (lv_at hl 0 rfl) ?_
  refine lv_bipush (v := 12) hx hb dX7_init_21 (by decide) ?_
  refine va_newa (a0 := (12, .inl (fun _ => 0))) (atype := .int) (ty := .int) hx hb (hts (.arrayClass .int) (by first | exact List.mem_of_getElem? (i := 4) rfl | decide +kernel)) rfl hK hP hD hS hA (n := 12) (N' := 12) (newc_I 12) (by decide) (by decide) (by decide) (Nat.le_of_ble_eq_true rfl) (Nat.le_of_ble_eq_true rfl) dX7_init_23 (fun q_3 cA H hK1 hP hD hS => ?_)
  obtain rfl : cA = E.2.1 0 := k_uniq hK hK1 0 5 rfl rfl (fun C h => by cases h)
  refine W.widen (k := 3) (n := 36) (Nat.le_of_ble_eq_true rfl) (Nat.le_of_ble_eq_true rfl) ?_
  have hP : va_P E.1 vwCl [(h0, .inr (7, [.ref q_1, .ref q_2, .null, .null, .int 0])), (q_1, .inl (E.2.1 0, 12, .inl (fun _ => 0))), (q_2, .inl (E.2.1 1, 12, .inl (fun _ => 0))), (q_3, .inl (E.2.1 0, 12, .inl (fun _ => 0)))] H := hP
  have hD : va_D A [(h0, .inr (7, [.ref q_1, .ref q_2, .null, .null, .int 0])), (q_1, .inl (E.2.1 0, 12, .inl (fun _ => 0))), (q_2, .inl (E.2.1 1, 12, .inl (fun _ => 0))), (q_3, .inl (E.2.1 0, 12, .inl (fun _ => 0)))] := hD
  refine va_putF (D := E.1) (ci := 7) (v := .ref q_3) (ty := .array .int) (C := RX7) (T := TX7) (N := 5) hx hb hts inX7 tyX7 tyX7_ok nmX7 hown hK hP hD hS 0 rfl rfl 2 (by decide) fl19 (fun _ h9 => h9) rfl hin rfl (by decide +kernel) rfl rfl (Nat.le_of_ble_eq_true rfl) dX7_init_25 (fun H locs hP hD hS => ?_)
  have hP : va_P E.1 vwCl [(h0, .inr (7, [.ref q_1, .ref q_2, .ref q_3, .null, .int 0])), (q_1, .inl (E.2.1 0, 12, .inl (fun _ => 0))), (q_2, .inl (E.2.1 1, 12, .inl (fun _ => 0))), (q_3, .inl (E.2.1 0, 12, .inl (fun _ => 0)))] H := hP
  have hD : va_D A [(h0, .inr (7, [.ref q_1, .ref q_2, .ref q_3, .null, .int 0])), (q_1, .inl (E.2.1 0, 12, .inl (fun _ => 0))), (q_2, .inl (E.2.1 1, 12, .inl (fun _ => 0))), (q_3, .inl (E.2.1 0, 12, .inl (fun _ => 0)))] := hD
  refine lv_aload_n hx hb dX7_init_28 rfl (lv_at hl 0 rfl) ?_
  refine lv_bipush (v := 12) hx hb dX7_init_29 (by decide) ?_
  refine va_newa (a0 := (12, .inl (fun _ => 0))) (atype := .int) (ty := .int) hx hb (hts (.arrayClass .int) (by first | exact List.mem_of_getElem? (i := 4) rfl | decide +kernel)) rfl hK hP hD hS hA (n := 12) (N' := 12) (newc_I 12) (by decide) (by decide) (by decide) (Nat.le_of_ble_eq_true rfl) (Nat.le_of_ble_eq_true rfl) dX7_init_31 (fun q_4 cA H hK1 hP hD hS => ?_)
  obtain rfl : cA = E.2.1 0 := k_uniq hK hK1 0 5 rfl rfl (fun C h => by cases h)
  refine W.widen (k := 4) (n := 48) (Nat.le_of_ble_eq_true rfl) (Nat.le_of_ble_eq_true rfl) ?_
  have hP : va_P E.1 vwCl [(h0, .inr (7, [.ref q_1, .ref q_2, .ref q_3, .null, .int 0])), (q_1, .inl (E.2.1 0, 12, .inl (fun _ => 0))), (q_2, .inl (E.2.1 1, 12, .inl (fun _ => 0))), (q_3, .inl (E.2.1 0, 12, .inl (fun _ => 0))), (q_4, .inl (E.2.1 0, 12, .inl (fun _ => 0)))] H := hP
  have hD : va_D A [(h0, .inr (7, [.ref q_1, .ref q_2, .ref q_3, .null, .int 0])), (q_1, .inl (E.2.1 0, 12, .inl (fun _ => 0))), (q_2, .inl (E.2.1 1, 12, .inl (fun _ => 0))), (q_3, .inl (E.2.1 0, 12, .inl (fun _ => 0))), (q_4, .inl (E.2.1 0, 12, .inl (fun _ => 0)))] := hD
  refine va_putF (D := E.1) (ci := 7) (v := .ref q_4) (ty := .array .int) (C := RX7) (T := TX7) (N := 5) hx hb hts inX7 tyX7 tyX7_ok nmX7 hown hK hP hD hS 0 rfl rfl 3 (by decide) fl22 (fun _ h9 => h9) rfl hin rfl (by decide +kernel) rfl rfl (Nat.le_of_ble_eq_true rfl) dX7_init_33 (fun H locs hP hD hS => ?_)
  have hP : va_P E.1 vwCl [(h0, .inr (7, [.ref q_1, .ref q_2, .ref q_3, .ref q_4, .int 0])), (q_1, .inl (E.2.1 0, 12, .inl (fun _ => 0))), (q_2, .inl (E.2.1 1, 12, .inl (fun _ => 0))), (q_3, .inl (E.2.1 0, 12, .inl (fun _ => 0))), (q_4, .inl (E.2.1 0, 12, .inl (fun _ => 0)))] H := hP
  have hD : va_D A [(h0, .inr (7, [.ref q_1, .ref q_2, .ref q_3, .ref q_4, .int 0])), (q_1, .inl (E.2.1 0, 12, .inl (fun _ => 0))), (q_2, .inl (E.2.1 1, 12, .inl (fun _ => 0))), (q_3, .inl (E.2.1 0, 12, .inl (fun _ => 0))), (q_4, .inl (E.2.1 0, 12, .inl (fun _ => 0)))] := hD
  refine lv_aload_n hx hb dX7_init_36 rfl (lv_at hl 0 rfl) ?_
  refine lv_iconst (v := 0) hx hb dX7_init_37 (by decide) ?_
  refine va_put (D := E.1) (ci := 7) (v := .int 0) (ty := .int) (C := RX7) (T := TX7) (N := 5) hx hb hts inX7 tyX7 tyX7_ok nmX7 hown hK hP hD hS 0 rfl rfl 4 (by decide) fl25 (fun _ h9 => h9) rfl (by decide +kernel) rfl rfl (Nat.le_of_ble_eq_true rfl) dX7_init_38 (fun H locs hP hD hS => ?_)
  have hP : va_P E.1 vwCl [(h0, .inr (7, [.ref q_1, .ref q_2, .ref q_3, .ref q_4, .int 0])), (q_1, .inl (E.2.1 0, 12, .inl (fun _ => 0))), (q_2, .inl (E.2.1 1, 12, .inl (fun _ => 0))), (q_3, .inl (E.2.1 0, 12, .inl (fun _ => 0))), (q_4, .inl (E.2.1 0, 12, .inl (fun _ => 0)))] H := hP
  have hD : va_D A [(h0, .inr (7, [.ref q_1, .ref q_2, .ref q_3, .ref q_4, .int 0])), (q_1, .inl (E.2.1 0, 12, .inl (fun _ => 0))), (q_2, .inl (E.2.1 1, 12, .inl (fun _ => 0))), (q_3, .inl (E.2.1 0, 12, .inl (fun _ => 0))), (q_4, .inl (E.2.1 0, 12, .inl (fun _ => 0)))] := hD
  have hP9 := hP.sub (ws' := [(h0, .inr (7, [.ref q_1, .ref q_2, .ref q_3, .ref q_4, .int 0])), (q_1, .inl (E.2.1 0, 12, .inl (fun _ => 0))), (q_2, .inl (E.2.1 1, 12, .inl (fun _ => 0))), (q_3, .inl (E.2.1 0, 12, .inl (fun _ => 0))), (q_4, .inl (E.2.1 0, 12, .inl (fun _ => 0)))]) [0, 1, 2, 3, 4] rfl
  have hD9 := hD.sub (ws' := [(h0, .inr (7, [.ref q_1, .ref q_2, .ref q_3, .ref q_4, .int 0])), (q_1, .inl (E.2.1 0, 12, .inl (fun _ => 0))), (q_2, .inl (E.2.1 1, 12, .inl (fun _ => 0))), (q_3, .inl (E.2.1 0, 12, .inl (fun _ => 0))), (q_4, .inl (E.2.1 0, 12, .inl (fun _ => 0)))]) [0, 1, 2, 3, 4] (by decide) rfl
  exact W.vret hx hb hr (fun t ht hW => ⟨⟨(), rfl, trivial, q_1, q_2, q_3, q_4, by rw [ht]; exact hP9, hD9⟩, hS.F ht⟩) hS.2.2 dX7_init_41
set_option maxHeartbeats 4000000 in
set_option maxRecDepth 100000 in
theorem c_X1_init (l : Launch) (E : vE) (h0 : Nat) (sz : Nat) : Met l yX1_init wsX1_init ({ frames := 1, cells := 1, slots := 72, locals := 12 }) (pcW E [.ref h0] sz [(h0, .inr (1, [.null, .int 0, .int 0, .int 0, .int 0]))]) (va_Qv (fun (_ : Unit) => True) (fun (_ : Unit) (t : State) => ∃ (q1 : Nat), wB E (va_A [(h0, .inr (1, [.null, .int 0, .int 0, .int 0, .int 0]))] sz) [(h0, .inr (1, [.ref q1, .int 0, .int 0, .int 9, .int 0])), (q1, .inl (E.2.1 0, 72, .inl (fun _ => 0)))] t) (va_A [(h0, .inr (1, [.null, .int 0, .int 0, .int 0, .int 0]))] sz)) 1 72 (va_A [(h0, .inr (1, [.null, .int 0, .int 0, .int 0, .int 0]))] sz) := by
  refine Met.ofW (cc := cX1_init) (maxL := 1) (ret := none) (by decide) rfl ?_
  intro p e s m args below meth c s₁ B hml hv
  obtain ⟨rfl, hsz, hP, hkn, hD0, hst⟩ := hv
  have hx := B.exec
  have hb := B.bytes
  have hr := B.returns
  have hts := atoms_spec (ws := wsX1_init) B.pre
  have hown : s.vm.findClass RX1 = some m.cls := findClass_of_methodNamed B.named
  have hlocks := B.notSynchronized
  have hin : meth.name = "<init>" := (name_of_methodNamed B.named B.method).1
  subst hsz
  have hD := hD0.self (sz := s.heap.size)
  have hK := hkn.1
  have hAO := hkn.2.2.1
  generalize hAe : va_A [(h0, .inr (1, [.null, .int 0, .int 0, .int 0, .int 0]))] s.heap.size = A at hD hst ⊢
  have hA : ∀ q : Nat, s.heap.size ≤ q → A q := fun q h => by rw [← hAe]; exact Or.inr h
  have hS : va_S A s.heap s.heap [] := va_S.rf
  have hP : va_P E.1 vwCl [(h0, .inr (1, [.null, .int 0, .int 0, .int 0, .int 0]))] s.heap := hP
  have hl := lv_entry ([.ref h0]) (n := 1) (Nat.le_of_ble_eq_true rfl)
  rw [lg_entry_eq]
  generalize (lg_sl ([.ref h0]) ++ List.replicate (1 - (lg_sl ([.ref h0])).length) Slot.unset).toArray = ls at hl ⊢
  have hl : lv_has ls 1 [(0, .ref h0)] := hl
  have fl9 := hts (.fieldLink RX1 9 "BoatsHome$Cover" "boxes" "[I") (by first | exact List.mem_of_getElem? (i := 5) rfl | decide +kernel)
  have fl15 := hts (.fieldLink RX1 15 "BoatsHome$Cover" "boxCount" "I") (by first | exact List.mem_of_getElem? (i := 6) rfl | decide +kernel)
  have fl19 := hts (.fieldLink RX1 19 "BoatsHome$Cover" "leastCrew" "I") (by first | exact List.mem_of_getElem? (i := 7) rfl | decide +kernel)
  have fl22 := hts (.fieldLink RX1 22 "BoatsHome$Cover" "mostForce" "I") (by first | exact List.mem_of_getElem? (i := 8) rfl | decide +kernel)
  have fl25 := hts (.fieldLink RX1 25 "BoatsHome$Cover" "lines" "I") (by first | exact List.mem_of_getElem? (i := 9) rfl | decide +kernel)
  have inX1 : ∀ w ∈ u_ws RX1 TX1 5, w ∈ wsX1_init := by first | exact fun w h9 => (List.mem_cons_of_mem _ (List.mem_append_right _ h9)) | decide +kernel
  refine lv_aload_n hx hb dX1_init_0 rfl (lv_at hl 0 rfl) ?_
  refine W.objInit hx hb hown (hts (.methodLink RX1 3 objectInit) (by first | exact List.mem_of_getElem? (i := 1) rfl | decide +kernel)) (hts (.instanceMethod objectInit) (by first | exact List.mem_of_getElem? (i := 2) rfl | decide +kernel)) (hts (.code objectInit ⟨#[0xb1]⟩ 1 none) (by first | exact List.mem_of_getElem? (i := 3) rfl | decide +kernel)) rfl (by rw [hml]; exact hl.1) rfl dX1_init_1 (Nat.le_of_ble_eq_true rfl) (Nat.le_of_ble_eq_true rfl) ?_
  refine W.eq (g2 := F0 m 4 ls []) rfl ?_
  refine lv_aload_n hx hb dX1_init_4 rfl (lv_at hl 0 rfl) ?_
  refine lv_bipush (v := 72) hx hb dX1_init_5 (by decide) ?_
  refine va_newa (a0 := (72, .inl (fun _ => 0))) (atype := .int) (ty := .int) hx hb (hts (.arrayClass .int) (by first | exact List.mem_of_getElem? (i := 4) rfl | decide +kernel)) rfl hK hP hD hS hA (n := 72) (N' := 72) (newc_I 72) (by decide) (by decide) (by decide) (Nat.le_of_ble_eq_true rfl) (Nat.le_of_ble_eq_true rfl) dX1_init_7 (fun q_1 cA H hK1 hP hD hS => ?_)
  obtain rfl : cA = E.2.1 0 := k_uniq hK hK1 0 5 rfl rfl (fun C h => by cases h)
  refine W.widen (k := 1) (n := 72) (Nat.le_of_ble_eq_true rfl) (Nat.le_of_ble_eq_true rfl) ?_
  have hP : va_P E.1 vwCl [(h0, .inr (1, [.null, .int 0, .int 0, .int 0, .int 0])), (q_1, .inl (E.2.1 0, 72, .inl (fun _ => 0)))] H := hP
  have hD : va_D A [(h0, .inr (1, [.null, .int 0, .int 0, .int 0, .int 0])), (q_1, .inl (E.2.1 0, 72, .inl (fun _ => 0)))] := hD
  refine va_putF (D := E.1) (ci := 1) (v := .ref q_1) (ty := .array .int) (C := RX1) (T := TX1) (N := 5) hx hb hts inX1 tyX1 tyX1_ok nmX1 hown hK hP hD hS 0 rfl rfl 0 (by decide) fl9 (fun _ h9 => h9) rfl hin rfl (by decide +kernel) rfl rfl (Nat.le_of_ble_eq_true rfl) dX1_init_9 (fun H locs hP hD hS => ?_)
  have hP : va_P E.1 vwCl [(h0, .inr (1, [.ref q_1, .int 0, .int 0, .int 0, .int 0])), (q_1, .inl (E.2.1 0, 72, .inl (fun _ => 0)))] H := hP
  have hD : va_D A [(h0, .inr (1, [.ref q_1, .int 0, .int 0, .int 0, .int 0])), (q_1, .inl (E.2.1 0, 72, .inl (fun _ => 0)))] := hD
  refine lv_aload_n hx hb dX1_init_12 rfl (lv_at hl 0 rfl) ?_
  refine lv_iconst (v := 0) hx hb dX1_init_13 (by decide) ?_
  refine va_put (D := E.1) (ci := 1) (v := .int 0) (ty := .int) (C := RX1) (T := TX1) (N := 5) hx hb hts inX1 tyX1 tyX1_ok nmX1 hown hK hP hD hS 0 rfl rfl 1 (by decide) fl15 (fun _ h9 => h9) rfl (by decide +kernel) rfl rfl (Nat.le_of_ble_eq_true rfl) dX1_init_14 (fun H locs hP hD hS => ?_)
  have hP : va_P E.1 vwCl [(h0, .inr (1, [.ref q_1, .int 0, .int 0, .int 0, .int 0])), (q_1, .inl (E.2.1 0, 72, .inl (fun _ => 0)))] H := hP
  have hD : va_D A [(h0, .inr (1, [.ref q_1, .int 0, .int 0, .int 0, .int 0])), (q_1, .inl (E.2.1 0, 72, .inl (fun _ => 0)))] := hD
  refine lv_aload_n hx hb dX1_init_17 rfl (lv_at hl 0 rfl) ?_
  refine lv_iconst (v := 0) hx hb dX1_init_18 (by decide) ?_
  refine va_put (D := E.1) (ci := 1) (v := .int 0) (ty := .int) (C := RX1) (T := TX1) (N := 5) hx hb hts inX1 tyX1 tyX1_ok nmX1 hown hK hP hD hS 0 rfl rfl 2 (by decide) fl19 (fun _ h9 => h9) rfl (by decide +kernel) rfl rfl (Nat.le_of_ble_eq_true rfl) dX1_init_19 (fun H locs hP hD hS => ?_)
  have hP : va_P E.1 vwCl [(h0, .inr (1, [.ref q_1, .int 0, .int 0, .int 0, .int 0])), (q_1, .inl (E.2.1 0, 72, .inl (fun _ => 0)))] H := hP
  have hD : va_D A [(h0, .inr (1, [.ref q_1, .int 0, .int 0, .int 0, .int 0])), (q_1, .inl (E.2.1 0, 72, .inl (fun _ => 0)))] := hD
  refine lv_aload_n hx hb dX1_init_22 rfl (lv_at hl 0 rfl) ?_
  refine lv_bipush (v := 9) hx hb dX1_init_23 (by decide) ?_
  refine va_put (D := E.1) (ci := 1) (v := .int 9) (ty := .int) (C := RX1) (T := TX1) (N := 5) hx hb hts inX1 tyX1 tyX1_ok nmX1 hown hK hP hD hS 0 rfl rfl 3 (by decide) fl22 (fun _ h9 => h9) rfl (by decide +kernel) rfl rfl (Nat.le_of_ble_eq_true rfl) dX1_init_25 (fun H locs hP hD hS => ?_)
  have hP : va_P E.1 vwCl [(h0, .inr (1, [.ref q_1, .int 0, .int 0, .int 9, .int 0])), (q_1, .inl (E.2.1 0, 72, .inl (fun _ => 0)))] H := hP
  have hD : va_D A [(h0, .inr (1, [.ref q_1, .int 0, .int 0, .int 9, .int 0])), (q_1, .inl (E.2.1 0, 72, .inl (fun _ => 0)))] := hD
  refine lv_aload_n hx hb dX1_init_28 rfl (lv_at hl 0 rfl) ?_
  refine lv_iconst (v := 0) hx hb dX1_init_29 (by decide) ?_
  refine va_put (D := E.1) (ci := 1) (v := .int 0) (ty := .int) (C := RX1) (T := TX1) (N := 5) hx hb hts inX1 tyX1 tyX1_ok nmX1 hown hK hP hD hS 0 rfl rfl 4 (by decide) fl25 (fun _ h9 => h9) rfl (by decide +kernel) rfl rfl (Nat.le_of_ble_eq_true rfl) dX1_init_30 (fun H locs hP hD hS => ?_)
  have hP : va_P E.1 vwCl [(h0, .inr (1, [.ref q_1, .int 0, .int 0, .int 9, .int 0])), (q_1, .inl (E.2.1 0, 72, .inl (fun _ => 0)))] H := hP
  have hD : va_D A [(h0, .inr (1, [.ref q_1, .int 0, .int 0, .int 9, .int 0])), (q_1, .inl (E.2.1 0, 72, .inl (fun _ => 0)))] := hD
  have hP9 := hP.sub (ws' := [(h0, .inr (1, [.ref q_1, .int 0, .int 0, .int 9, .int 0])), (q_1, .inl (E.2.1 0, 72, .inl (fun _ => 0)))]) [0, 1] rfl
  have hD9 := hD.sub (ws' := [(h0, .inr (1, [.ref q_1, .int 0, .int 0, .int 9, .int 0])), (q_1, .inl (E.2.1 0, 72, .inl (fun _ => 0)))]) [0, 1] (by decide) rfl
  exact W.vret hx hb hr (fun t ht hW => ⟨⟨(), rfl, trivial, q_1, by rw [ht]; exact hP9, hD9⟩, hS.F ht⟩) hS.2.2 dX1_init_33
set_option maxHeartbeats 4000000 in
set_option maxRecDepth 100000 in
theorem c_X4_init (l : Launch) (E : vE) (h0 : Nat) (sz : Nat) : Met l yX4_init wsX4_init ({ frames := 1, cells := 1, slots := 8, locals := 12 }) (pcW E [.ref h0] sz [(h0, .inr (4, [.null, .int 0, .int 0, .int 0, .int 0, .int 0, .int 0, .int 0, .int 0, .int 0, .int 0, .int 0, .int 0, .int 0, .int 0, .int 0]))]) (va_Qv (fun (_ : Unit) => True) (fun (_ : Unit) (t : State) => ∃ (q1 : Nat), wB E (va_A [(h0, .inr (4, [.null, .int 0, .int 0, .int 0, .int 0, .int 0, .int 0, .int 0, .int 0, .int 0, .int 0, .int 0, .int 0, .int 0, .int 0, .int 0]))] sz) [(h0, .inr (4, [.ref q1, .int 0, .int 0, .int (-1), .int 0, .int 0, .int 0, .int 0, .int 0, .int 0, .int 0, .int 0, .int 0, .int 0, .int (-1), .int 0])), (q1, .inl (E.2.1 0, 8, .inl (fun _ => 0)))] t) (va_A [(h0, .inr (4, [.null, .int 0, .int 0, .int 0, .int 0, .int 0, .int 0, .int 0, .int 0, .int 0, .int 0, .int 0, .int 0, .int 0, .int 0, .int 0]))] sz)) 1 8 (va_A [(h0, .inr (4, [.null, .int 0, .int 0, .int 0, .int 0, .int 0, .int 0, .int 0, .int 0, .int 0, .int 0, .int 0, .int 0, .int 0, .int 0, .int 0]))] sz) := by
  refine Met.ofW (cc := cX4_init) (maxL := 1) (ret := none) (by decide) rfl ?_
  intro p e s m args below meth c s₁ B hml hv
  obtain ⟨rfl, hsz, hP, hkn, hD0, hst⟩ := hv
  have hx := B.exec
  have hb := B.bytes
  have hr := B.returns
  have hts := atoms_spec (ws := wsX4_init) B.pre
  have hown : s.vm.findClass RX4 = some m.cls := findClass_of_methodNamed B.named
  have hlocks := B.notSynchronized
  have hin : meth.name = "<init>" := (name_of_methodNamed B.named B.method).1
  subst hsz
  have hD := hD0.self (sz := s.heap.size)
  have hK := hkn.1
  have hAO := hkn.2.2.1
  generalize hAe : va_A [(h0, .inr (4, [.null, .int 0, .int 0, .int 0, .int 0, .int 0, .int 0, .int 0, .int 0, .int 0, .int 0, .int 0, .int 0, .int 0, .int 0, .int 0]))] s.heap.size = A at hD hst ⊢
  have hA : ∀ q : Nat, s.heap.size ≤ q → A q := fun q h => by rw [← hAe]; exact Or.inr h
  have hS : va_S A s.heap s.heap [] := va_S.rf
  have hP : va_P E.1 vwCl [(h0, .inr (4, [.null, .int 0, .int 0, .int 0, .int 0, .int 0, .int 0, .int 0, .int 0, .int 0, .int 0, .int 0, .int 0, .int 0, .int 0, .int 0]))] s.heap := hP
  have hl := lv_entry ([.ref h0]) (n := 1) (Nat.le_of_ble_eq_true rfl)
  rw [lg_entry_eq]
  generalize (lg_sl ([.ref h0]) ++ List.replicate (1 - (lg_sl ([.ref h0])).length) Slot.unset).toArray = ls at hl ⊢
  have hl : lv_has ls 1 [(0, .ref h0)] := hl
  have fl9 := hts (.fieldLink RX4 9 "BoatsHome$Passage" "way" "[I") (by first | exact List.mem_of_getElem? (i := 5) rfl | decide +kernel)
  have fl15 := hts (.fieldLink RX4 15 "BoatsHome$Passage" "wayLength" "I") (by first | exact List.mem_of_getElem? (i := 6) rfl | decide +kernel)
  have fl19 := hts (.fieldLink RX4 19 "BoatsHome$Passage" "passed" "I") (by first | exact List.mem_of_getElem? (i := 7) rfl | decide +kernel)
  have fl22 := hts (.fieldLink RX4 22 "BoatsHome$Passage" "state" "I") (by first | exact List.mem_of_getElem? (i := 8) rfl | decide +kernel)
  have fl25 := hts (.fieldLink RX4 25 "BoatsHome$Passage" "homePort" "I") (by first | exact List.mem_of_getElem? (i := 9) rfl | decide +kernel)
  have fl28 := hts (.fieldLink RX4 28 "BoatsHome$Passage" "firstDay" "I") (by first | exact List.mem_of_getElem? (i := 10) rfl | decide +kernel)
  have fl31 := hts (.fieldLink RX4 31 "BoatsHome$Passage" "people" "I") (by first | exact List.mem_of_getElem? (i := 11) rfl | decide +kernel)
  have fl34 := hts (.fieldLink RX4 34 "BoatsHome$Passage" "at" "I") (by first | exact List.mem_of_getElem? (i := 12) rfl | decide +kernel)
  have fl37 := hts (.fieldLink RX4 37 "BoatsHome$Passage" "gone" "I") (by first | exact List.mem_of_getElem? (i := 13) rfl | decide +kernel)
  have fl40 := hts (.fieldLink RX4 40 "BoatsHome$Passage" "turned" "Z") (by first | exact List.mem_of_getElem? (i := 14) rfl | decide +kernel)
  have fl44 := hts (.fieldLink RX4 44 "BoatsHome$Passage" "watches" "I") (by first | exact List.mem_of_getElem? (i := 15) rfl | decide +kernel)
  have fl47 := hts (.fieldLink RX4 47 "BoatsHome$Passage" "cells" "I") (by first | exact List.mem_of_getElem? (i := 16) rfl | decide +kernel)
  have fl50 := hts (.fieldLink RX4 50 "BoatsHome$Passage" "waited" "I") (by first | exact List.mem_of_getElem? (i := 17) rfl | decide +kernel)
  have fl53 := hts (.fieldLink RX4 53 "BoatsHome$Passage" "uncovered" "I") (by first | exact List.mem_of_getElem? (i := 18) rfl | decide +kernel)
  have fl56 := hts (.fieldLink RX4 56 "BoatsHome$Passage" "firstUncovered" "I") (by first | exact List.mem_of_getElem? (i := 19) rfl | decide +kernel)
  have fl59 := hts (.fieldLink RX4 59 "BoatsHome$Passage" "dry" "I") (by first | exact List.mem_of_getElem? (i := 20) rfl | decide +kernel)
  have inX4 : ∀ w ∈ u_ws RX4 TX4 16, w ∈ wsX4_init := by first | exact fun w h9 => (List.mem_cons_of_mem _ (List.mem_append_right _ h9)) | decide +kernel
  refine lv_aload_n hx hb dX4_init_0 rfl (lv_at hl 0 rfl) ?_
  refine W.objInit hx hb hown (hts (.methodLink RX4 3 objectInit) (by first | exact List.mem_of_getElem? (i := 1) rfl | decide +kernel)) (hts (.instanceMethod objectInit) (by first | exact List.mem_of_getElem? (i := 2) rfl | decide +kernel)) (hts (.code objectInit ⟨#[0xb1]⟩ 1 none) (by first | exact List.mem_of_getElem? (i := 3) rfl | decide +kernel)) rfl (by rw [hml]; exact hl.1) rfl dX4_init_1 (Nat.le_of_ble_eq_true rfl) (Nat.le_of_ble_eq_true rfl) ?_
  refine W.eq (g2 := F0 m 4 ls []) rfl ?_
  refine lv_aload_n hx hb dX4_init_4 rfl (lv_at hl 0 rfl) ?_
  refine lv_bipush (v := 8) hx hb dX4_init_5 (by decide) ?_
  refine va_newa (a0 := (8, .inl (fun _ => 0))) (atype := .int) (ty := .int) hx hb (hts (.arrayClass .int) (by first | exact List.mem_of_getElem? (i := 4) rfl | decide +kernel)) rfl hK hP hD hS hA (n := 8) (N' := 8) (newc_I 8) (by decide) (by decide) (by decide) (Nat.le_of_ble_eq_true rfl) (Nat.le_of_ble_eq_true rfl) dX4_init_7 (fun q_1 cA H hK1 hP hD hS => ?_)
  obtain rfl : cA = E.2.1 0 := k_uniq hK hK1 0 5 rfl rfl (fun C h => by cases h)
  refine W.widen (k := 1) (n := 8) (Nat.le_of_ble_eq_true rfl) (Nat.le_of_ble_eq_true rfl) ?_
  have hP : va_P E.1 vwCl [(h0, .inr (4, [.null, .int 0, .int 0, .int 0, .int 0, .int 0, .int 0, .int 0, .int 0, .int 0, .int 0, .int 0, .int 0, .int 0, .int 0, .int 0])), (q_1, .inl (E.2.1 0, 8, .inl (fun _ => 0)))] H := hP
  have hD : va_D A [(h0, .inr (4, [.null, .int 0, .int 0, .int 0, .int 0, .int 0, .int 0, .int 0, .int 0, .int 0, .int 0, .int 0, .int 0, .int 0, .int 0, .int 0])), (q_1, .inl (E.2.1 0, 8, .inl (fun _ => 0)))] := hD
  refine va_putF (D := E.1) (ci := 4) (v := .ref q_1) (ty := .array .int) (C := RX4) (T := TX4) (N := 16) hx hb hts inX4 tyX4 tyX4_ok nmX4 hown hK hP hD hS 0 rfl rfl 0 (by decide) fl9 (fun _ h9 => h9) rfl hin rfl (by decide +kernel) rfl rfl (Nat.le_of_ble_eq_true rfl) dX4_init_9 (fun H locs hP hD hS => ?_)
  have hP : va_P E.1 vwCl [(h0, .inr (4, [.ref q_1, .int 0, .int 0, .int 0, .int 0, .int 0, .int 0, .int 0, .int 0, .int 0, .int 0, .int 0, .int 0, .int 0, .int 0, .int 0])), (q_1, .inl (E.2.1 0, 8, .inl (fun _ => 0)))] H := hP
  have hD : va_D A [(h0, .inr (4, [.ref q_1, .int 0, .int 0, .int 0, .int 0, .int 0, .int 0, .int 0, .int 0, .int 0, .int 0, .int 0, .int 0, .int 0, .int 0, .int 0])), (q_1, .inl (E.2.1 0, 8, .inl (fun _ => 0)))] := hD
  refine lv_aload_n hx hb dX4_init_12 rfl (lv_at hl 0 rfl) ?_
  refine lv_iconst (v := 0) hx hb dX4_init_13 (by decide) ?_
  refine va_put (D := E.1) (ci := 4) (v := .int 0) (ty := .int) (C := RX4) (T := TX4) (N := 16) hx hb hts inX4 tyX4 tyX4_ok nmX4 hown hK hP hD hS 0 rfl rfl 1 (by decide) fl15 (fun _ h9 => h9) rfl (by decide +kernel) rfl rfl (Nat.le_of_ble_eq_true rfl) dX4_init_14 (fun H locs hP hD hS => ?_)
  have hP : va_P E.1 vwCl [(h0, .inr (4, [.ref q_1, .int 0, .int 0, .int 0, .int 0, .int 0, .int 0, .int 0, .int 0, .int 0, .int 0, .int 0, .int 0, .int 0, .int 0, .int 0])), (q_1, .inl (E.2.1 0, 8, .inl (fun _ => 0)))] H := hP
  have hD : va_D A [(h0, .inr (4, [.ref q_1, .int 0, .int 0, .int 0, .int 0, .int 0, .int 0, .int 0, .int 0, .int 0, .int 0, .int 0, .int 0, .int 0, .int 0, .int 0])), (q_1, .inl (E.2.1 0, 8, .inl (fun _ => 0)))] := hD
  refine lv_aload_n hx hb dX4_init_17 rfl (lv_at hl 0 rfl) ?_
  refine lv_iconst (v := 0) hx hb dX4_init_18 (by decide) ?_
  refine va_put (D := E.1) (ci := 4) (v := .int 0) (ty := .int) (C := RX4) (T := TX4) (N := 16) hx hb hts inX4 tyX4 tyX4_ok nmX4 hown hK hP hD hS 0 rfl rfl 2 (by decide) fl19 (fun _ h9 => h9) rfl (by decide +kernel) rfl rfl (Nat.le_of_ble_eq_true rfl) dX4_init_19 (fun H locs hP hD hS => ?_)
  have hP : va_P E.1 vwCl [(h0, .inr (4, [.ref q_1, .int 0, .int 0, .int 0, .int 0, .int 0, .int 0, .int 0, .int 0, .int 0, .int 0, .int 0, .int 0, .int 0, .int 0, .int 0])), (q_1, .inl (E.2.1 0, 8, .inl (fun _ => 0)))] H := hP
  have hD : va_D A [(h0, .inr (4, [.ref q_1, .int 0, .int 0, .int 0, .int 0, .int 0, .int 0, .int 0, .int 0, .int 0, .int 0, .int 0, .int 0, .int 0, .int 0, .int 0])), (q_1, .inl (E.2.1 0, 8, .inl (fun _ => 0)))] := hD
  refine lv_aload_n hx hb dX4_init_22 rfl (lv_at hl 0 rfl) ?_
  refine lv_iconst (v := (-1)) hx hb dX4_init_23 (by decide) ?_
  refine va_put (D := E.1) (ci := 4) (v := .int (-1)) (ty := .int) (C := RX4) (T := TX4) (N := 16) hx hb hts inX4 tyX4 tyX4_ok nmX4 hown hK hP hD hS 0 rfl rfl 3 (by decide) fl22 (fun _ h9 => h9) rfl (by decide +kernel) rfl rfl (Nat.le_of_ble_eq_true rfl) dX4_init_24 (fun H locs hP hD hS => ?_)
  have hP : va_P E.1 vwCl [(h0, .inr (4, [.ref q_1, .int 0, .int 0, .int (-1), .int 0, .int 0, .int 0, .int 0, .int 0, .int 0, .int 0, .int 0, .int 0, .int 0, .int 0, .int 0])), (q_1, .inl (E.2.1 0, 8, .inl (fun _ => 0)))] H := hP
  have hD : va_D A [(h0, .inr (4, [.ref q_1, .int 0, .int 0, .int (-1), .int 0, .int 0, .int 0, .int 0, .int 0, .int 0, .int 0, .int 0, .int 0, .int 0, .int 0, .int 0])), (q_1, .inl (E.2.1 0, 8, .inl (fun _ => 0)))] := hD
  refine lv_aload_n hx hb dX4_init_27 rfl (lv_at hl 0 rfl) ?_
  refine lv_iconst (v := 0) hx hb dX4_init_28 (by decide) ?_
  refine va_put (D := E.1) (ci := 4) (v := .int 0) (ty := .int) (C := RX4) (T := TX4) (N := 16) hx hb hts inX4 tyX4 tyX4_ok nmX4 hown hK hP hD hS 0 rfl rfl 4 (by decide) fl25 (fun _ h9 => h9) rfl (by decide +kernel) rfl rfl (Nat.le_of_ble_eq_true rfl) dX4_init_29 (fun H locs hP hD hS => ?_)
  have hP : va_P E.1 vwCl [(h0, .inr (4, [.ref q_1, .int 0, .int 0, .int (-1), .int 0, .int 0, .int 0, .int 0, .int 0, .int 0, .int 0, .int 0, .int 0, .int 0, .int 0, .int 0])), (q_1, .inl (E.2.1 0, 8, .inl (fun _ => 0)))] H := hP
  have hD : va_D A [(h0, .inr (4, [.ref q_1, .int 0, .int 0, .int (-1), .int 0, .int 0, .int 0, .int 0, .int 0, .int 0, .int 0, .int 0, .int 0, .int 0, .int 0, .int 0])), (q_1, .inl (E.2.1 0, 8, .inl (fun _ => 0)))] := hD
  refine lv_aload_n hx hb dX4_init_32 rfl (lv_at hl 0 rfl) ?_
  refine lv_iconst (v := 0) hx hb dX4_init_33 (by decide) ?_
  refine va_put (D := E.1) (ci := 4) (v := .int 0) (ty := .int) (C := RX4) (T := TX4) (N := 16) hx hb hts inX4 tyX4 tyX4_ok nmX4 hown hK hP hD hS 0 rfl rfl 5 (by decide) fl28 (fun _ h9 => h9) rfl (by decide +kernel) rfl rfl (Nat.le_of_ble_eq_true rfl) dX4_init_34 (fun H locs hP hD hS => ?_)
  have hP : va_P E.1 vwCl [(h0, .inr (4, [.ref q_1, .int 0, .int 0, .int (-1), .int 0, .int 0, .int 0, .int 0, .int 0, .int 0, .int 0, .int 0, .int 0, .int 0, .int 0, .int 0])), (q_1, .inl (E.2.1 0, 8, .inl (fun _ => 0)))] H := hP
  have hD : va_D A [(h0, .inr (4, [.ref q_1, .int 0, .int 0, .int (-1), .int 0, .int 0, .int 0, .int 0, .int 0, .int 0, .int 0, .int 0, .int 0, .int 0, .int 0, .int 0])), (q_1, .inl (E.2.1 0, 8, .inl (fun _ => 0)))] := hD
  refine lv_aload_n hx hb dX4_init_37 rfl (lv_at hl 0 rfl) ?_
  refine lv_iconst (v := 0) hx hb dX4_init_38 (by decide) ?_
  refine va_put (D := E.1) (ci := 4) (v := .int 0) (ty := .int) (C := RX4) (T := TX4) (N := 16) hx hb hts inX4 tyX4 tyX4_ok nmX4 hown hK hP hD hS 0 rfl rfl 6 (by decide) fl31 (fun _ h9 => h9) rfl (by decide +kernel) rfl rfl (Nat.le_of_ble_eq_true rfl) dX4_init_39 (fun H locs hP hD hS => ?_)
  have hP : va_P E.1 vwCl [(h0, .inr (4, [.ref q_1, .int 0, .int 0, .int (-1), .int 0, .int 0, .int 0, .int 0, .int 0, .int 0, .int 0, .int 0, .int 0, .int 0, .int 0, .int 0])), (q_1, .inl (E.2.1 0, 8, .inl (fun _ => 0)))] H := hP
  have hD : va_D A [(h0, .inr (4, [.ref q_1, .int 0, .int 0, .int (-1), .int 0, .int 0, .int 0, .int 0, .int 0, .int 0, .int 0, .int 0, .int 0, .int 0, .int 0, .int 0])), (q_1, .inl (E.2.1 0, 8, .inl (fun _ => 0)))] := hD
  refine lv_aload_n hx hb dX4_init_42 rfl (lv_at hl 0 rfl) ?_
  refine lv_iconst (v := 0) hx hb dX4_init_43 (by decide) ?_
  refine va_put (D := E.1) (ci := 4) (v := .int 0) (ty := .int) (C := RX4) (T := TX4) (N := 16) hx hb hts inX4 tyX4 tyX4_ok nmX4 hown hK hP hD hS 0 rfl rfl 7 (by decide) fl34 (fun _ h9 => h9) rfl (by decide +kernel) rfl rfl (Nat.le_of_ble_eq_true rfl) dX4_init_44 (fun H locs hP hD hS => ?_)
  have hP : va_P E.1 vwCl [(h0, .inr (4, [.ref q_1, .int 0, .int 0, .int (-1), .int 0, .int 0, .int 0, .int 0, .int 0, .int 0, .int 0, .int 0, .int 0, .int 0, .int 0, .int 0])), (q_1, .inl (E.2.1 0, 8, .inl (fun _ => 0)))] H := hP
  have hD : va_D A [(h0, .inr (4, [.ref q_1, .int 0, .int 0, .int (-1), .int 0, .int 0, .int 0, .int 0, .int 0, .int 0, .int 0, .int 0, .int 0, .int 0, .int 0, .int 0])), (q_1, .inl (E.2.1 0, 8, .inl (fun _ => 0)))] := hD
  refine lv_aload_n hx hb dX4_init_47 rfl (lv_at hl 0 rfl) ?_
  refine lv_iconst (v := 0) hx hb dX4_init_48 (by decide) ?_
  refine va_put (D := E.1) (ci := 4) (v := .int 0) (ty := .int) (C := RX4) (T := TX4) (N := 16) hx hb hts inX4 tyX4 tyX4_ok nmX4 hown hK hP hD hS 0 rfl rfl 8 (by decide) fl37 (fun _ h9 => h9) rfl (by decide +kernel) rfl rfl (Nat.le_of_ble_eq_true rfl) dX4_init_49 (fun H locs hP hD hS => ?_)
  have hP : va_P E.1 vwCl [(h0, .inr (4, [.ref q_1, .int 0, .int 0, .int (-1), .int 0, .int 0, .int 0, .int 0, .int 0, .int 0, .int 0, .int 0, .int 0, .int 0, .int 0, .int 0])), (q_1, .inl (E.2.1 0, 8, .inl (fun _ => 0)))] H := hP
  have hD : va_D A [(h0, .inr (4, [.ref q_1, .int 0, .int 0, .int (-1), .int 0, .int 0, .int 0, .int 0, .int 0, .int 0, .int 0, .int 0, .int 0, .int 0, .int 0, .int 0])), (q_1, .inl (E.2.1 0, 8, .inl (fun _ => 0)))] := hD
  refine lv_aload_n hx hb dX4_init_52 rfl (lv_at hl 0 rfl) ?_
  refine lv_iconst (v := 0) hx hb dX4_init_53 (by decide) ?_
  refine va_put (D := E.1) (ci := 4) (v := .int 0) (ty := .boolean) (C := RX4) (T := TX4) (N := 16) hx hb hts inX4 tyX4 tyX4_ok nmX4 hown hK hP hD hS 0 rfl rfl 9 (by decide) fl40 (fun _ h9 => h9) rfl (by decide +kernel) (by first | rfl | decide) (by first | rfl | decide) (Nat.le_of_ble_eq_true rfl) dX4_init_54 (fun H locs hP hD hS => ?_)
  have hP : va_P E.1 vwCl [(h0, .inr (4, [.ref q_1, .int 0, .int 0, .int (-1), .int 0, .int 0, .int 0, .int 0, .int 0, .int 0, .int 0, .int 0, .int 0, .int 0, .int 0, .int 0])), (q_1, .inl (E.2.1 0, 8, .inl (fun _ => 0)))] H := hP
  have hD : va_D A [(h0, .inr (4, [.ref q_1, .int 0, .int 0, .int (-1), .int 0, .int 0, .int 0, .int 0, .int 0, .int 0, .int 0, .int 0, .int 0, .int 0, .int 0, .int 0])), (q_1, .inl (E.2.1 0, 8, .inl (fun _ => 0)))] := hD
  refine lv_aload_n hx hb dX4_init_57 rfl (lv_at hl 0 rfl) ?_
  refine lv_iconst (v := 0) hx hb dX4_init_58 (by decide) ?_
  refine va_put (D := E.1) (ci := 4) (v := .int 0) (ty := .int) (C := RX4) (T := TX4) (N := 16) hx hb hts inX4 tyX4 tyX4_ok nmX4 hown hK hP hD hS 0 rfl rfl 10 (by decide) fl44 (fun _ h9 => h9) rfl (by decide +kernel) rfl rfl (Nat.le_of_ble_eq_true rfl) dX4_init_59 (fun H locs hP hD hS => ?_)
  have hP : va_P E.1 vwCl [(h0, .inr (4, [.ref q_1, .int 0, .int 0, .int (-1), .int 0, .int 0, .int 0, .int 0, .int 0, .int 0, .int 0, .int 0, .int 0, .int 0, .int 0, .int 0])), (q_1, .inl (E.2.1 0, 8, .inl (fun _ => 0)))] H := hP
  have hD : va_D A [(h0, .inr (4, [.ref q_1, .int 0, .int 0, .int (-1), .int 0, .int 0, .int 0, .int 0, .int 0, .int 0, .int 0, .int 0, .int 0, .int 0, .int 0, .int 0])), (q_1, .inl (E.2.1 0, 8, .inl (fun _ => 0)))] := hD
  refine lv_aload_n hx hb dX4_init_62 rfl (lv_at hl 0 rfl) ?_
  refine lv_iconst (v := 0) hx hb dX4_init_63 (by decide) ?_
  refine va_put (D := E.1) (ci := 4) (v := .int 0) (ty := .int) (C := RX4) (T := TX4) (N := 16) hx hb hts inX4 tyX4 tyX4_ok nmX4 hown hK hP hD hS 0 rfl rfl 11 (by decide) fl47 (fun _ h9 => h9) rfl (by decide +kernel) rfl rfl (Nat.le_of_ble_eq_true rfl) dX4_init_64 (fun H locs hP hD hS => ?_)
  have hP : va_P E.1 vwCl [(h0, .inr (4, [.ref q_1, .int 0, .int 0, .int (-1), .int 0, .int 0, .int 0, .int 0, .int 0, .int 0, .int 0, .int 0, .int 0, .int 0, .int 0, .int 0])), (q_1, .inl (E.2.1 0, 8, .inl (fun _ => 0)))] H := hP
  have hD : va_D A [(h0, .inr (4, [.ref q_1, .int 0, .int 0, .int (-1), .int 0, .int 0, .int 0, .int 0, .int 0, .int 0, .int 0, .int 0, .int 0, .int 0, .int 0, .int 0])), (q_1, .inl (E.2.1 0, 8, .inl (fun _ => 0)))] := hD
  refine lv_aload_n hx hb dX4_init_67 rfl (lv_at hl 0 rfl) ?_
  refine lv_iconst (v := 0) hx hb dX4_init_68 (by decide) ?_
  refine va_put (D := E.1) (ci := 4) (v := .int 0) (ty := .int) (C := RX4) (T := TX4) (N := 16) hx hb hts inX4 tyX4 tyX4_ok nmX4 hown hK hP hD hS 0 rfl rfl 12 (by decide) fl50 (fun _ h9 => h9) rfl (by decide +kernel) rfl rfl (Nat.le_of_ble_eq_true rfl) dX4_init_69 (fun H locs hP hD hS => ?_)
  have hP : va_P E.1 vwCl [(h0, .inr (4, [.ref q_1, .int 0, .int 0, .int (-1), .int 0, .int 0, .int 0, .int 0, .int 0, .int 0, .int 0, .int 0, .int 0, .int 0, .int 0, .int 0])), (q_1, .inl (E.2.1 0, 8, .inl (fun _ => 0)))] H := hP
  have hD : va_D A [(h0, .inr (4, [.ref q_1, .int 0, .int 0, .int (-1), .int 0, .int 0, .int 0, .int 0, .int 0, .int 0, .int 0, .int 0, .int 0, .int 0, .int 0, .int 0])), (q_1, .inl (E.2.1 0, 8, .inl (fun _ => 0)))] := hD
  refine lv_aload_n hx hb dX4_init_72 rfl (lv_at hl 0 rfl) ?_
  refine lv_iconst (v := 0) hx hb dX4_init_73 (by decide) ?_
  refine va_put (D := E.1) (ci := 4) (v := .int 0) (ty := .int) (C := RX4) (T := TX4) (N := 16) hx hb hts inX4 tyX4 tyX4_ok nmX4 hown hK hP hD hS 0 rfl rfl 13 (by decide) fl53 (fun _ h9 => h9) rfl (by decide +kernel) rfl rfl (Nat.le_of_ble_eq_true rfl) dX4_init_74 (fun H locs hP hD hS => ?_)
  have hP : va_P E.1 vwCl [(h0, .inr (4, [.ref q_1, .int 0, .int 0, .int (-1), .int 0, .int 0, .int 0, .int 0, .int 0, .int 0, .int 0, .int 0, .int 0, .int 0, .int 0, .int 0])), (q_1, .inl (E.2.1 0, 8, .inl (fun _ => 0)))] H := hP
  have hD : va_D A [(h0, .inr (4, [.ref q_1, .int 0, .int 0, .int (-1), .int 0, .int 0, .int 0, .int 0, .int 0, .int 0, .int 0, .int 0, .int 0, .int 0, .int 0, .int 0])), (q_1, .inl (E.2.1 0, 8, .inl (fun _ => 0)))] := hD
  refine lv_aload_n hx hb dX4_init_77 rfl (lv_at hl 0 rfl) ?_
  refine lv_iconst (v := (-1)) hx hb dX4_init_78 (by decide) ?_
  refine va_put (D := E.1) (ci := 4) (v := .int (-1)) (ty := .int) (C := RX4) (T := TX4) (N := 16) hx hb hts inX4 tyX4 tyX4_ok nmX4 hown hK hP hD hS 0 rfl rfl 14 (by decide) fl56 (fun _ h9 => h9) rfl (by decide +kernel) rfl rfl (Nat.le_of_ble_eq_true rfl) dX4_init_79 (fun H locs hP hD hS => ?_)
  have hP : va_P E.1 vwCl [(h0, .inr (4, [.ref q_1, .int 0, .int 0, .int (-1), .int 0, .int 0, .int 0, .int 0, .int 0, .int 0, .int 0, .int 0, .int 0, .int 0, .int (-1), .int 0])), (q_1, .inl (E.2.1 0, 8, .inl (fun _ => 0)))] H := hP
  have hD : va_D A [(h0, .inr (4, [.ref q_1, .int 0, .int 0, .int (-1), .int 0, .int 0, .int 0, .int 0, .int 0, .int 0, .int 0, .int 0, .int 0, .int 0, .int (-1), .int 0])), (q_1, .inl (E.2.1 0, 8, .inl (fun _ => 0)))] := hD
  refine lv_aload_n hx hb dX4_init_82 rfl (lv_at hl 0 rfl) ?_
  refine lv_iconst (v := 0) hx hb dX4_init_83 (by decide) ?_
  refine va_put (D := E.1) (ci := 4) (v := .int 0) (ty := .int) (C := RX4) (T := TX4) (N := 16) hx hb hts inX4 tyX4 tyX4_ok nmX4 hown hK hP hD hS 0 rfl rfl 15 (by decide) fl59 (fun _ h9 => h9) rfl (by decide +kernel) rfl rfl (Nat.le_of_ble_eq_true rfl) dX4_init_84 (fun H locs hP hD hS => ?_)
  have hP : va_P E.1 vwCl [(h0, .inr (4, [.ref q_1, .int 0, .int 0, .int (-1), .int 0, .int 0, .int 0, .int 0, .int 0, .int 0, .int 0, .int 0, .int 0, .int 0, .int (-1), .int 0])), (q_1, .inl (E.2.1 0, 8, .inl (fun _ => 0)))] H := hP
  have hD : va_D A [(h0, .inr (4, [.ref q_1, .int 0, .int 0, .int (-1), .int 0, .int 0, .int 0, .int 0, .int 0, .int 0, .int 0, .int 0, .int 0, .int 0, .int (-1), .int 0])), (q_1, .inl (E.2.1 0, 8, .inl (fun _ => 0)))] := hD
  have hP9 := hP.sub (ws' := [(h0, .inr (4, [.ref q_1, .int 0, .int 0, .int (-1), .int 0, .int 0, .int 0, .int 0, .int 0, .int 0, .int 0, .int 0, .int 0, .int 0, .int (-1), .int 0])), (q_1, .inl (E.2.1 0, 8, .inl (fun _ => 0)))]) [0, 1] rfl
  have hD9 := hD.sub (ws' := [(h0, .inr (4, [.ref q_1, .int 0, .int 0, .int (-1), .int 0, .int 0, .int 0, .int 0, .int 0, .int 0, .int 0, .int 0, .int 0, .int 0, .int (-1), .int 0])), (q_1, .inl (E.2.1 0, 8, .inl (fun _ => 0)))]) [0, 1] (by decide) rfl
  exact W.vret hx hb hr (fun t ht hW => ⟨⟨(), rfl, trivial, q_1, by rw [ht]; exact hP9, hD9⟩, hS.F ht⟩) hS.2.2 dX4_init_87
set_option maxHeartbeats 4000000 in
set_option maxRecDepth 100000 in
theorem c_X0_init (l : Launch) (E : vE) (h0 : Nat) (sz : Nat) : Met l yX0_init wsX0_init ({ frames := 2, cells := 11, slots := 183, locals := 32 }) (pcW E [.ref h0] sz [(h0, .inr (0, [.null, .null, .int 0, .null, .null, .null]))]) (va_Qv (fun (_ : Unit) => True) (fun (_ : Unit) (t : State) => ∃ (a : Nat → Nat), ∃ (fp : Nat → Int32), (∀ k, k < 4 → fp k = 10000) ∧ wB E (va_A [(h0, .inr (0, [.null, .null, .int 0, .null, .null, .null]))] sz) [(h0, .inr (0, [.ref (a 0), .ref (a 1), .int 0, .ref (a 2), .ref (a 7), .ref (a 9)])), (a 0, .inl (E.2.1 0, 25, .inl (fun _ => 0))), (a 1, .inl (E.2.1 0, 4, .inl fp)), (a 2, .inr (7, [.ref (a 3), .ref (a 4), .ref (a 5), .ref (a 6), .int 0])), (a 3, .inl (E.2.1 0, 12, .inl (fun _ => 0))), (a 4, .inl (E.2.1 1, 12, .inl (fun _ => 0))), (a 5, .inl (E.2.1 0, 12, .inl (fun _ => 0))), (a 6, .inl (E.2.1 0, 12, .inl (fun _ => 0))), (a 7, .inr (1, [.ref (a 8), .int 0, .int 0, .int 9, .int 0])), (a 8, .inl (E.2.1 0, 72, .inl (fun _ => 0))), (a 9, .inr (4, [.ref (a 10), .int 0, .int 0, .int (-1), .int 0, .int 0, .int 0, .int 0, .int 0, .int 0, .int 0, .int 0, .int 0, .int 0, .int (-1), .int 0])), (a 10, .inl (E.2.1 0, 8, .inl (fun _ => 0)))] t) (va_A [(h0, .inr (0, [.null, .null, .int 0, .null, .null, .null]))] sz)) 11 183 (va_A [(h0, .inr (0, [.null, .null, .int 0, .null, .null, .null]))] sz) := by
  refine Met.ofW (cc := cX0_init) (maxL := 1) (ret := none) (by decide) rfl ?_
  intro p e s m args below meth c s₁ B hml hv
  obtain ⟨rfl, hsz, hP, hkn, hD0, hst⟩ := hv
  have hx := B.exec
  have hb := B.bytes
  have hr := B.returns
  have hts := atoms_spec (ws := wsX0_init) B.pre
  have hown : s.vm.findClass RX0 = some m.cls := findClass_of_methodNamed B.named
  have hlocks := B.notSynchronized
  have hin : meth.name = "<init>" := (name_of_methodNamed B.named B.method).1
  subst hsz
  have hD := hD0.self (sz := s.heap.size)
  have hK := hkn.1
  have hAO := hkn.2.2.1
  generalize hAe : va_A [(h0, .inr (0, [.null, .null, .int 0, .null, .null, .null]))] s.heap.size = A at hD hst ⊢
  have hA : ∀ q : Nat, s.heap.size ≤ q → A q := fun q h => by rw [← hAe]; exact Or.inr h
  have hS : va_S A s.heap s.heap [] := va_S.rf
  have hP : va_P E.1 vwCl [(h0, .inr (0, [.null, .null, .int 0, .null, .null, .null]))] s.heap := hP
  have hl := lv_entry ([.ref h0]) (n := 1) (Nat.le_of_ble_eq_true rfl)
  rw [lg_entry_eq]
  generalize (lg_sl ([.ref h0]) ++ List.replicate (1 - (lg_sl ([.ref h0])).length) Slot.unset).toArray = ls at hl ⊢
  have hl : lv_has ls 1 [(0, .ref h0)] := hl
  have fl9 := hts (.fieldLink RX0 9 "BoatsHome$Boat" "speeds" "[I") (by first | exact List.mem_of_getElem? (i := 5) rfl | decide +kernel)
  have fl15 := hts (.fieldLink RX0 15 "BoatsHome$Boat" "parts" "[I") (by first | exact List.mem_of_getElem? (i := 6) rfl | decide +kernel)
  have fl18 := hts (.fieldLink RX0 18 "BoatsHome$Boat" "litres" "I") (by first | exact List.mem_of_getElem? (i := 7) rfl | decide +kernel)
  have fl25 := hts (.fieldLink RX0 25 "BoatsHome$Boat" "rules" "LBoatsHome$Rules;") (by first | exact List.mem_of_getElem? (i := 11) rfl | decide +kernel)
  have fl32 := hts (.fieldLink RX0 32 "BoatsHome$Boat" "cover" "LBoatsHome$Cover;") (by first | exact List.mem_of_getElem? (i := 15) rfl | decide +kernel)
  have fl39 := hts (.fieldLink RX0 39 "BoatsHome$Boat" "trip" "LBoatsHome$Passage;") (by first | exact List.mem_of_getElem? (i := 19) rfl | decide +kernel)
  have inX0 : ∀ w ∈ u_ws RX0 TX0 6, w ∈ wsX0_init := by first | exact fun w h9 => (List.mem_cons_of_mem _ (List.mem_append_left _ (List.mem_append_left _ (List.mem_append_left _ (List.mem_append_right _ h9))))) | decide +kernel
  refine lv_aload_n hx hb dX0_init_0 rfl (lv_at hl 0 rfl) ?_
  refine W.objInit hx hb hown (hts (.methodLink RX0 3 objectInit) (by first | exact List.mem_of_getElem? (i := 1) rfl | decide +kernel)) (hts (.instanceMethod objectInit) (by first | exact List.mem_of_getElem? (i := 2) rfl | decide +kernel)) (hts (.code objectInit ⟨#[0xb1]⟩ 1 none) (by first | exact List.mem_of_getElem? (i := 3) rfl | decide +kernel)) rfl (by rw [hml]; exact hl.1) rfl dX0_init_1 (Nat.le_of_ble_eq_true rfl) (Nat.le_of_ble_eq_true rfl) ?_
  refine W.eq (g2 := F0 m 4 ls []) rfl ?_
  refine lv_aload_n hx hb dX0_init_4 rfl (lv_at hl 0 rfl) ?_
  refine lv_bipush (v := 25) hx hb dX0_init_5 (by decide) ?_
  refine va_newa (a0 := (25, .inl (fun _ => 0))) (atype := .int) (ty := .int) hx hb (hts (.arrayClass .int) (by first | exact List.mem_of_getElem? (i := 4) rfl | decide +kernel)) rfl hK hP hD hS hA (n := 25) (N' := 25) (newc_I 25) (by decide) (by decide) (by decide) (Nat.le_of_ble_eq_true rfl) (Nat.le_of_ble_eq_true rfl) dX0_init_7 (fun q_1 cA H hK1 hP hD hS => ?_)
  obtain rfl : cA = E.2.1 0 := k_uniq hK hK1 0 5 rfl rfl (fun C h => by cases h)
  refine W.widen (k := 1) (n := 25) (Nat.le_of_ble_eq_true rfl) (Nat.le_of_ble_eq_true rfl) ?_
  have hP : va_P E.1 vwCl [(h0, .inr (0, [.null, .null, .int 0, .null, .null, .null])), (q_1, .inl (E.2.1 0, 25, .inl (fun _ => 0)))] H := hP
  have hD : va_D A [(h0, .inr (0, [.null, .null, .int 0, .null, .null, .null])), (q_1, .inl (E.2.1 0, 25, .inl (fun _ => 0)))] := hD
  refine va_putF (D := E.1) (ci := 0) (v := .ref q_1) (ty := .array .int) (C := RX0) (T := TX0) (N := 6) hx hb hts inX0 tyX0 tyX0_ok nmX0 hown hK hP hD hS 0 rfl rfl 0 (by decide) fl9 (fun _ h9 => h9) rfl hin rfl (by decide +kernel) rfl rfl (Nat.le_of_ble_eq_true rfl) dX0_init_9 (fun H locs hP hD hS => ?_)
  have hP : va_P E.1 vwCl [(h0, .inr (0, [.ref q_1, .null, .int 0, .null, .null, .null])), (q_1, .inl (E.2.1 0, 25, .inl (fun _ => 0)))] H := hP
  have hD : va_D A [(h0, .inr (0, [.ref q_1, .null, .int 0, .null, .null, .null])), (q_1, .inl (E.2.1 0, 25, .inl (fun _ => 0)))] := hD
  refine lv_aload_n hx hb dX0_init_12 rfl (lv_at hl 0 rfl) ?_
  refine lv_iconst (v := 4) hx hb dX0_init_13 (by decide) ?_
  refine va_newa (a0 := (4, .inl (fun _ => 0))) (atype := .int) (ty := .int) hx hb (hts (.arrayClass .int) (by first | exact List.mem_of_getElem? (i := 4) rfl | decide +kernel)) rfl hK hP hD hS hA (n := 4) (N' := 4) (newc_I 4) (by decide) (by decide) (by decide) (Nat.le_of_ble_eq_true rfl) (Nat.le_of_ble_eq_true rfl) dX0_init_14 (fun q_2 cA H hK1 hP hD hS => ?_)
  obtain rfl : cA = E.2.1 0 := k_uniq hK hK1 0 5 rfl rfl (fun C h => by cases h)
  refine W.widen (k := 2) (n := 29) (Nat.le_of_ble_eq_true rfl) (Nat.le_of_ble_eq_true rfl) ?_
  have hP : va_P E.1 vwCl [(h0, .inr (0, [.ref q_1, .null, .int 0, .null, .null, .null])), (q_1, .inl (E.2.1 0, 25, .inl (fun _ => 0))), (q_2, .inl (E.2.1 0, 4, .inl (fun _ => 0)))] H := hP
  have hD : va_D A [(h0, .inr (0, [.ref q_1, .null, .int 0, .null, .null, .null])), (q_1, .inl (E.2.1 0, 25, .inl (fun _ => 0))), (q_2, .inl (E.2.1 0, 4, .inl (fun _ => 0)))] := hD
  refine lv_dup hx hb dX0_init_16 rfl ?_
  refine lv_iconst (v := 0) hx hb dX0_init_17 (by decide) ?_
  refine lv_sipush (v := 10000) hx hb dX0_init_18 (by decide) ?_
  refine va_iast hx hb hK hP hD hS 2 0 rfl rfl (show vp_in 0 4 from by unfold vp_in; decide) dX0_init_21 (fun H locs hP hD hS => ?_)
  have hP : va_P E.1 vwCl [(h0, .inr (0, [.ref q_1, .null, .int 0, .null, .null, .null])), (q_1, .inl (E.2.1 0, 25, .inl (fun _ => 0))), (q_2, .inl (E.2.1 0, 4, .inl (upd (fun _ => 0) (Int32.toNatClampNeg 0) 10000)))] H := hP
  have hD : va_D A [(h0, .inr (0, [.ref q_1, .null, .int 0, .null, .null, .null])), (q_1, .inl (E.2.1 0, 25, .inl (fun _ => 0))), (q_2, .inl (E.2.1 0, 4, .inl (upd (fun _ => 0) (Int32.toNatClampNeg 0) 10000)))] := hD
  obtain ⟨f_3, ef_3⟩ : ∃ g : Nat → Int32, g = upd (fun _ => 0) (Int32.toNatClampNeg 0) 10000 := ⟨_, rfl⟩
  rw [← ef_3] at hP hD
  refine lv_dup hx hb dX0_init_22 rfl ?_
  refine lv_iconst (v := 1) hx hb dX0_init_23 (by decide) ?_
  refine lv_sipush (v := 10000) hx hb dX0_init_24 (by decide) ?_
  refine va_iast hx hb hK hP hD hS 2 0 rfl rfl (show vp_in 1 4 from by unfold vp_in; decide) dX0_init_27 (fun H locs hP hD hS => ?_)
  have hP : va_P E.1 vwCl [(h0, .inr (0, [.ref q_1, .null, .int 0, .null, .null, .null])), (q_1, .inl (E.2.1 0, 25, .inl (fun _ => 0))), (q_2, .inl (E.2.1 0, 4, .inl (upd f_3 (Int32.toNatClampNeg 1) 10000)))] H := hP
  have hD : va_D A [(h0, .inr (0, [.ref q_1, .null, .int 0, .null, .null, .null])), (q_1, .inl (E.2.1 0, 25, .inl (fun _ => 0))), (q_2, .inl (E.2.1 0, 4, .inl (upd f_3 (Int32.toNatClampNeg 1) 10000)))] := hD
  obtain ⟨f_4, ef_4⟩ : ∃ g : Nat → Int32, g = upd f_3 (Int32.toNatClampNeg 1) 10000 := ⟨_, rfl⟩
  rw [← ef_4] at hP hD
  refine lv_dup hx hb dX0_init_28 rfl ?_
  refine lv_iconst (v := 2) hx hb dX0_init_29 (by decide) ?_
  refine lv_sipush (v := 10000) hx hb dX0_init_30 (by decide) ?_
  refine va_iast hx hb hK hP hD hS 2 0 rfl rfl (show vp_in 2 4 from by unfold vp_in; decide) dX0_init_33 (fun H locs hP hD hS => ?_)
  have hP : va_P E.1 vwCl [(h0, .inr (0, [.ref q_1, .null, .int 0, .null, .null, .null])), (q_1, .inl (E.2.1 0, 25, .inl (fun _ => 0))), (q_2, .inl (E.2.1 0, 4, .inl (upd f_4 (Int32.toNatClampNeg 2) 10000)))] H := hP
  have hD : va_D A [(h0, .inr (0, [.ref q_1, .null, .int 0, .null, .null, .null])), (q_1, .inl (E.2.1 0, 25, .inl (fun _ => 0))), (q_2, .inl (E.2.1 0, 4, .inl (upd f_4 (Int32.toNatClampNeg 2) 10000)))] := hD
  obtain ⟨f_5, ef_5⟩ : ∃ g : Nat → Int32, g = upd f_4 (Int32.toNatClampNeg 2) 10000 := ⟨_, rfl⟩
  rw [← ef_5] at hP hD
  refine lv_dup hx hb dX0_init_34 rfl ?_
  refine lv_iconst (v := 3) hx hb dX0_init_35 (by decide) ?_
  refine lv_sipush (v := 10000) hx hb dX0_init_36 (by decide) ?_
  refine va_iast hx hb hK hP hD hS 2 0 rfl rfl (show vp_in 3 4 from by unfold vp_in; decide) dX0_init_39 (fun H locs hP hD hS => ?_)
  have hP : va_P E.1 vwCl [(h0, .inr (0, [.ref q_1, .null, .int 0, .null, .null, .null])), (q_1, .inl (E.2.1 0, 25, .inl (fun _ => 0))), (q_2, .inl (E.2.1 0, 4, .inl (upd f_5 (Int32.toNatClampNeg 3) 10000)))] H := hP
  have hD : va_D A [(h0, .inr (0, [.ref q_1, .null, .int 0, .null, .null, .null])), (q_1, .inl (E.2.1 0, 25, .inl (fun _ => 0))), (q_2, .inl (E.2.1 0, 4, .inl (upd f_5 (Int32.toNatClampNeg 3) 10000)))] := hD
  obtain ⟨f_6, ef_6⟩ : ∃ g : Nat → Int32, g = upd f_5 (Int32.toNatClampNeg 3) 10000 := ⟨_, rfl⟩
  rw [← ef_6] at hP hD
  refine va_putF (D := E.1) (ci := 0) (v := .ref q_2) (ty := .array .int) (C := RX0) (T := TX0) (N := 6) hx hb hts inX0 tyX0 tyX0_ok nmX0 hown hK hP hD hS 0 rfl rfl 1 (by decide) fl15 (fun _ h9 => h9) rfl hin rfl (by decide +kernel) rfl rfl (Nat.le_of_ble_eq_true rfl) dX0_init_40 (fun H locs hP hD hS => ?_)
  have hP : va_P E.1 vwCl [(h0, .inr (0, [.ref q_1, .ref q_2, .int 0, .null, .null, .null])), (q_1, .inl (E.2.1 0, 25, .inl (fun _ => 0))), (q_2, .inl (E.2.1 0, 4, .inl f_6))] H := hP
  have hD : va_D A [(h0, .inr (0, [.ref q_1, .ref q_2, .int 0, .null, .null, .null])), (q_1, .inl (E.2.1 0, 25, .inl (fun _ => 0))), (q_2, .inl (E.2.1 0, 4, .inl f_6))] := hD
  refine lv_aload_n hx hb dX0_init_43 rfl (lv_at hl 0 rfl) ?_
  refine lv_iconst (v := 0) hx hb dX0_init_44 (by decide) ?_
  refine va_put (D := E.1) (ci := 0) (v := .int 0) (ty := .int) (C := RX0) (T := TX0) (N := 6) hx hb hts inX0 tyX0 tyX0_ok nmX0 hown hK hP hD hS 0 rfl rfl 2 (by decide) fl18 (fun _ h9 => h9) rfl (by decide +kernel) rfl rfl (Nat.le_of_ble_eq_true rfl) dX0_init_45 (fun H locs hP hD hS => ?_)
  have hP : va_P E.1 vwCl [(h0, .inr (0, [.ref q_1, .ref q_2, .int 0, .null, .null, .null])), (q_1, .inl (E.2.1 0, 25, .inl (fun _ => 0))), (q_2, .inl (E.2.1 0, 4, .inl f_6))] H := hP
  have hD : va_D A [(h0, .inr (0, [.ref q_1, .ref q_2, .int 0, .null, .null, .null])), (q_1, .inl (E.2.1 0, 25, .inl (fun _ => 0))), (q_2, .inl (E.2.1 0, 4, .inl f_6))] := hD
  refine lv_aload_n hx hb dX0_init_48 rfl (lv_at hl 0 rfl) ?_
  have inX7 : ∀ w ∈ u_ws RX7 TX7 5, w ∈ wsX0_init := by first | exact fun w h9 => (List.mem_cons_of_mem _ (List.mem_append_left _ (List.mem_append_left _ (List.mem_append_right _ h9)))) | decide +kernel
  refine va_new (ci := 7) (fs := [.null, .null, .null, .null, .int 0]) (C := RX7) (T := TX7) (N := 5) hx hb hts inX7 tyX7 tyX7_ok hown (hts (.classLink RX0 22 RX7) (by first | exact List.mem_of_getElem? (i := 8) rfl | decide +kernel)) (hts (.instantiable RX7 5) (by first | exact List.mem_of_getElem? (i := 9) rfl | decide +kernel)) (hts (.initialized RX7) (by first | exact List.mem_of_getElem? (i := 10) rfl | decide +kernel)) hK hP hD hS hA rfl (by decide +kernel) (Nat.le_of_ble_eq_true rfl) (Nat.le_of_ble_eq_true rfl) dX0_init_49 (fun q_7 H hP hD hS => ?_)
  refine W.widen (k := 3) (n := 34) (Nat.le_of_ble_eq_true rfl) (Nat.le_of_ble_eq_true rfl) ?_
  have hP : va_P E.1 vwCl [(h0, .inr (0, [.ref q_1, .ref q_2, .int 0, .null, .null, .null])), (q_1, .inl (E.2.1 0, 25, .inl (fun _ => 0))), (q_2, .inl (E.2.1 0, 4, .inl f_6)), (q_7, .inr (7, [.null, .null, .null, .null, .int 0]))] H := hP
  have hD : va_D A [(h0, .inr (0, [.ref q_1, .ref q_2, .int 0, .null, .null, .null])), (q_1, .inl (E.2.1 0, 25, .inl (fun _ => 0))), (q_2, .inl (E.2.1 0, 4, .inl f_6)), (q_7, .inr (7, [.null, .null, .null, .null, .int 0]))] := hD
  refine lv_dup hx hb dX0_init_52 rfl ?_
  have hPc := hP.sub (ws' := [(q_7, .inr (7, [.null, .null, .null, .null, .int 0]))]) [3] rfl
  have hDc := hD.sub (ws' := [(q_7, .inr (7, [.null, .null, .null, .null, .int 0]))]) [3] (by decide) rfl
  have hFc := va_free (wc := [(q_7, .inr (7, [.null, .null, .null, .null, .int 0]))]) hD hS hA [3] rfl
  refine va_callv (va_runIN (As := []) (rest := [.ref q_7, .ref h0]) ⟨hx, hb, hml, hown, hts⟩ (c_X7_init l E q_7 H.size ) ⟨va_cnB 0 hts gX0_init_X7_init_n24 rfl rfl rfl (hkn.2.1 (.methodLinkNest RX0 24 yX7_init "BoatsHome") (by decide +kernel)) (hts (.initialized RX7) (by first | exact List.mem_of_getElem? (i := 10) rfl | decide +kernel)) (by decide +kernel) ⟨Nat.le_of_ble_eq_true rfl, Nat.le_of_ble_eq_true rfl⟩, rfl, hts (.instanceMethod yX7_init) (by first | exact List.mem_of_getElem? (i := 20) rfl | decide +kernel)⟩ ⟨pcW_blind, (pcW_pre hPc hkn hDc hst hS hFc)⟩ rfl rfl hl.1 rfl (lv_room (Nat.le_of_ble_eq_true rfl)) dX0_init_53 ⟨Nat.le_of_ble_eq_true rfl, Nat.le_of_ble_eq_true rfl⟩) hS (fun q _ h => hFc q h) hFc (fun u t H1 locs ht hvm hw_9 hB hz1 hk1 hS => ?_)
  obtain ⟨q_10, q_11, q_12, q_13, hP1, hD1⟩ := hB
  rw [ht] at hP1
  try dsimp only at hw_9
  obtain ⟨hP, hD⟩ := va_join (wr := [(h0, .inr (0, [.ref q_1, .ref q_2, .int 0, .null, .null, .null])), (q_1, .inl (E.2.1 0, 25, .inl (fun _ => 0))), (q_2, .inl (E.2.1 0, 4, .inl f_6))]) (w1 := [(q_7, .inr (7, [.ref q_10, .ref q_11, .ref q_12, .ref q_13, .int 0])), (q_10, .inl (E.2.1 0, 12, .inl (fun _ => 0))), (q_11, .inl (E.2.1 1, 12, .inl (fun _ => 0))), (q_12, .inl (E.2.1 0, 12, .inl (fun _ => 0))), (q_13, .inl (E.2.1 0, 12, .inl (fun _ => 0)))]) hP hD [3] [0, 1, 2] rfl rfl (by decide) (by decide) hk1 hFc hP1 hD1
  generalize H1 = H at hP hS ⊢
  have hP : va_P E.1 vwCl [(h0, .inr (0, [.ref q_1, .ref q_2, .int 0, .null, .null, .null])), (q_1, .inl (E.2.1 0, 25, .inl (fun _ => 0))), (q_2, .inl (E.2.1 0, 4, .inl f_6)), (q_7, .inr (7, [.ref q_10, .ref q_11, .ref q_12, .ref q_13, .int 0])), (q_10, .inl (E.2.1 0, 12, .inl (fun _ => 0))), (q_11, .inl (E.2.1 1, 12, .inl (fun _ => 0))), (q_12, .inl (E.2.1 0, 12, .inl (fun _ => 0))), (q_13, .inl (E.2.1 0, 12, .inl (fun _ => 0)))] H := hP
  have hD : va_D A [(h0, .inr (0, [.ref q_1, .ref q_2, .int 0, .null, .null, .null])), (q_1, .inl (E.2.1 0, 25, .inl (fun _ => 0))), (q_2, .inl (E.2.1 0, 4, .inl f_6)), (q_7, .inr (7, [.ref q_10, .ref q_11, .ref q_12, .ref q_13, .int 0])), (q_10, .inl (E.2.1 0, 12, .inl (fun _ => 0))), (q_11, .inl (E.2.1 1, 12, .inl (fun _ => 0))), (q_12, .inl (E.2.1 0, 12, .inl (fun _ => 0))), (q_13, .inl (E.2.1 0, 12, .inl (fun _ => 0)))] := hD
  refine W.widen (k := 7) (n := 82) (Nat.le_of_ble_eq_true rfl) (Nat.le_of_ble_eq_true rfl) ?_
  refine va_put (D := E.1) (ci := 0) (v := .ref q_7) (ty := .object "BoatsHome$Rules") (C := RX0) (T := TX0) (N := 6) hx hb hts inX0 tyX0 tyX0_ok nmX0 hown hK hP hD hS 0 rfl rfl 3 (by decide) fl25 (fun _ h9 => h9) rfl (by decide +kernel) rfl rfl (Nat.le_of_ble_eq_true rfl) dX0_init_56 (fun H locs hP hD hS => ?_)
  have hP : va_P E.1 vwCl [(h0, .inr (0, [.ref q_1, .ref q_2, .int 0, .ref q_7, .null, .null])), (q_1, .inl (E.2.1 0, 25, .inl (fun _ => 0))), (q_2, .inl (E.2.1 0, 4, .inl f_6)), (q_7, .inr (7, [.ref q_10, .ref q_11, .ref q_12, .ref q_13, .int 0])), (q_10, .inl (E.2.1 0, 12, .inl (fun _ => 0))), (q_11, .inl (E.2.1 1, 12, .inl (fun _ => 0))), (q_12, .inl (E.2.1 0, 12, .inl (fun _ => 0))), (q_13, .inl (E.2.1 0, 12, .inl (fun _ => 0)))] H := hP
  have hD : va_D A [(h0, .inr (0, [.ref q_1, .ref q_2, .int 0, .ref q_7, .null, .null])), (q_1, .inl (E.2.1 0, 25, .inl (fun _ => 0))), (q_2, .inl (E.2.1 0, 4, .inl f_6)), (q_7, .inr (7, [.ref q_10, .ref q_11, .ref q_12, .ref q_13, .int 0])), (q_10, .inl (E.2.1 0, 12, .inl (fun _ => 0))), (q_11, .inl (E.2.1 1, 12, .inl (fun _ => 0))), (q_12, .inl (E.2.1 0, 12, .inl (fun _ => 0))), (q_13, .inl (E.2.1 0, 12, .inl (fun _ => 0)))] := hD
  refine lv_aload_n hx hb dX0_init_59 rfl (lv_at hl 0 rfl) ?_
  have inX1 : ∀ w ∈ u_ws RX1 TX1 5, w ∈ wsX0_init := by first | exact fun w h9 => (List.mem_cons_of_mem _ (List.mem_append_left _ (List.mem_append_right _ h9))) | decide +kernel
  refine va_new (ci := 1) (fs := [.null, .int 0, .int 0, .int 0, .int 0]) (C := RX1) (T := TX1) (N := 5) hx hb hts inX1 tyX1 tyX1_ok hown (hts (.classLink RX0 29 RX1) (by first | exact List.mem_of_getElem? (i := 12) rfl | decide +kernel)) (hts (.instantiable RX1 5) (by first | exact List.mem_of_getElem? (i := 13) rfl | decide +kernel)) (hts (.initialized RX1) (by first | exact List.mem_of_getElem? (i := 14) rfl | decide +kernel)) hK hP hD hS hA rfl (by decide +kernel) (Nat.le_of_ble_eq_true rfl) (Nat.le_of_ble_eq_true rfl) dX0_init_60 (fun q_14 H hP hD hS => ?_)
  refine W.widen (k := 8) (n := 87) (Nat.le_of_ble_eq_true rfl) (Nat.le_of_ble_eq_true rfl) ?_
  have hP : va_P E.1 vwCl [(h0, .inr (0, [.ref q_1, .ref q_2, .int 0, .ref q_7, .null, .null])), (q_1, .inl (E.2.1 0, 25, .inl (fun _ => 0))), (q_2, .inl (E.2.1 0, 4, .inl f_6)), (q_7, .inr (7, [.ref q_10, .ref q_11, .ref q_12, .ref q_13, .int 0])), (q_10, .inl (E.2.1 0, 12, .inl (fun _ => 0))), (q_11, .inl (E.2.1 1, 12, .inl (fun _ => 0))), (q_12, .inl (E.2.1 0, 12, .inl (fun _ => 0))), (q_13, .inl (E.2.1 0, 12, .inl (fun _ => 0))), (q_14, .inr (1, [.null, .int 0, .int 0, .int 0, .int 0]))] H := hP
  have hD : va_D A [(h0, .inr (0, [.ref q_1, .ref q_2, .int 0, .ref q_7, .null, .null])), (q_1, .inl (E.2.1 0, 25, .inl (fun _ => 0))), (q_2, .inl (E.2.1 0, 4, .inl f_6)), (q_7, .inr (7, [.ref q_10, .ref q_11, .ref q_12, .ref q_13, .int 0])), (q_10, .inl (E.2.1 0, 12, .inl (fun _ => 0))), (q_11, .inl (E.2.1 1, 12, .inl (fun _ => 0))), (q_12, .inl (E.2.1 0, 12, .inl (fun _ => 0))), (q_13, .inl (E.2.1 0, 12, .inl (fun _ => 0))), (q_14, .inr (1, [.null, .int 0, .int 0, .int 0, .int 0]))] := hD
  refine lv_dup hx hb dX0_init_63 rfl ?_
  have hPc := hP.sub (ws' := [(q_14, .inr (1, [.null, .int 0, .int 0, .int 0, .int 0]))]) [8] rfl
  have hDc := hD.sub (ws' := [(q_14, .inr (1, [.null, .int 0, .int 0, .int 0, .int 0]))]) [8] (by decide) rfl
  have hFc := va_free (wc := [(q_14, .inr (1, [.null, .int 0, .int 0, .int 0, .int 0]))]) hD hS hA [8] rfl
  refine va_callv (va_runIN (As := []) (rest := [.ref q_14, .ref h0]) ⟨hx, hb, hml, hown, hts⟩ (c_X1_init l E q_14 H.size ) ⟨va_cnB 0 hts gX0_init_X1_init_n31 rfl rfl rfl (hkn.2.1 (.methodLinkNest RX0 31 yX1_init "BoatsHome") (by decide +kernel)) (hts (.initialized RX1) (by first | exact List.mem_of_getElem? (i := 14) rfl | decide +kernel)) (by decide +kernel) ⟨Nat.le_of_ble_eq_true rfl, Nat.le_of_ble_eq_true rfl⟩, rfl, hts (.instanceMethod yX1_init) (by first | exact List.mem_of_getElem? (i := 29) rfl | decide +kernel)⟩ ⟨pcW_blind, (pcW_pre hPc hkn hDc hst hS hFc)⟩ rfl rfl hl.1 rfl (lv_room (Nat.le_of_ble_eq_true rfl)) dX0_init_64 ⟨Nat.le_of_ble_eq_true rfl, Nat.le_of_ble_eq_true rfl⟩) hS (fun q _ h => hFc q h) hFc (fun u t H1 locs ht hvm hw_16 hB hz1 hk1 hS => ?_)
  obtain ⟨q_17, hP1, hD1⟩ := hB
  rw [ht] at hP1
  try dsimp only at hw_16
  obtain ⟨hP, hD⟩ := va_join (wr := [(h0, .inr (0, [.ref q_1, .ref q_2, .int 0, .ref q_7, .null, .null])), (q_1, .inl (E.2.1 0, 25, .inl (fun _ => 0))), (q_2, .inl (E.2.1 0, 4, .inl f_6)), (q_7, .inr (7, [.ref q_10, .ref q_11, .ref q_12, .ref q_13, .int 0])), (q_10, .inl (E.2.1 0, 12, .inl (fun _ => 0))), (q_11, .inl (E.2.1 1, 12, .inl (fun _ => 0))), (q_12, .inl (E.2.1 0, 12, .inl (fun _ => 0))), (q_13, .inl (E.2.1 0, 12, .inl (fun _ => 0)))]) (w1 := [(q_14, .inr (1, [.ref q_17, .int 0, .int 0, .int 9, .int 0])), (q_17, .inl (E.2.1 0, 72, .inl (fun _ => 0)))]) hP hD [8] [0, 1, 2, 3, 4, 5, 6, 7] rfl rfl (by decide) (by decide) hk1 hFc hP1 hD1
  generalize H1 = H at hP hS ⊢
  have hP : va_P E.1 vwCl [(h0, .inr (0, [.ref q_1, .ref q_2, .int 0, .ref q_7, .null, .null])), (q_1, .inl (E.2.1 0, 25, .inl (fun _ => 0))), (q_2, .inl (E.2.1 0, 4, .inl f_6)), (q_7, .inr (7, [.ref q_10, .ref q_11, .ref q_12, .ref q_13, .int 0])), (q_10, .inl (E.2.1 0, 12, .inl (fun _ => 0))), (q_11, .inl (E.2.1 1, 12, .inl (fun _ => 0))), (q_12, .inl (E.2.1 0, 12, .inl (fun _ => 0))), (q_13, .inl (E.2.1 0, 12, .inl (fun _ => 0))), (q_14, .inr (1, [.ref q_17, .int 0, .int 0, .int 9, .int 0])), (q_17, .inl (E.2.1 0, 72, .inl (fun _ => 0)))] H := hP
  have hD : va_D A [(h0, .inr (0, [.ref q_1, .ref q_2, .int 0, .ref q_7, .null, .null])), (q_1, .inl (E.2.1 0, 25, .inl (fun _ => 0))), (q_2, .inl (E.2.1 0, 4, .inl f_6)), (q_7, .inr (7, [.ref q_10, .ref q_11, .ref q_12, .ref q_13, .int 0])), (q_10, .inl (E.2.1 0, 12, .inl (fun _ => 0))), (q_11, .inl (E.2.1 1, 12, .inl (fun _ => 0))), (q_12, .inl (E.2.1 0, 12, .inl (fun _ => 0))), (q_13, .inl (E.2.1 0, 12, .inl (fun _ => 0))), (q_14, .inr (1, [.ref q_17, .int 0, .int 0, .int 9, .int 0])), (q_17, .inl (E.2.1 0, 72, .inl (fun _ => 0)))] := hD
  refine W.widen (k := 9) (n := 159) (Nat.le_of_ble_eq_true rfl) (Nat.le_of_ble_eq_true rfl) ?_
  refine va_put (D := E.1) (ci := 0) (v := .ref q_14) (ty := .object "BoatsHome$Cover") (C := RX0) (T := TX0) (N := 6) hx hb hts inX0 tyX0 tyX0_ok nmX0 hown hK hP hD hS 0 rfl rfl 4 (by decide) fl32 (fun _ h9 => h9) rfl (by decide +kernel) rfl rfl (Nat.le_of_ble_eq_true rfl) dX0_init_67 (fun H locs hP hD hS => ?_)
  have hP : va_P E.1 vwCl [(h0, .inr (0, [.ref q_1, .ref q_2, .int 0, .ref q_7, .ref q_14, .null])), (q_1, .inl (E.2.1 0, 25, .inl (fun _ => 0))), (q_2, .inl (E.2.1 0, 4, .inl f_6)), (q_7, .inr (7, [.ref q_10, .ref q_11, .ref q_12, .ref q_13, .int 0])), (q_10, .inl (E.2.1 0, 12, .inl (fun _ => 0))), (q_11, .inl (E.2.1 1, 12, .inl (fun _ => 0))), (q_12, .inl (E.2.1 0, 12, .inl (fun _ => 0))), (q_13, .inl (E.2.1 0, 12, .inl (fun _ => 0))), (q_14, .inr (1, [.ref q_17, .int 0, .int 0, .int 9, .int 0])), (q_17, .inl (E.2.1 0, 72, .inl (fun _ => 0)))] H := hP
  have hD : va_D A [(h0, .inr (0, [.ref q_1, .ref q_2, .int 0, .ref q_7, .ref q_14, .null])), (q_1, .inl (E.2.1 0, 25, .inl (fun _ => 0))), (q_2, .inl (E.2.1 0, 4, .inl f_6)), (q_7, .inr (7, [.ref q_10, .ref q_11, .ref q_12, .ref q_13, .int 0])), (q_10, .inl (E.2.1 0, 12, .inl (fun _ => 0))), (q_11, .inl (E.2.1 1, 12, .inl (fun _ => 0))), (q_12, .inl (E.2.1 0, 12, .inl (fun _ => 0))), (q_13, .inl (E.2.1 0, 12, .inl (fun _ => 0))), (q_14, .inr (1, [.ref q_17, .int 0, .int 0, .int 9, .int 0])), (q_17, .inl (E.2.1 0, 72, .inl (fun _ => 0)))] := hD
  refine lv_aload_n hx hb dX0_init_70 rfl (lv_at hl 0 rfl) ?_
  have inX4 : ∀ w ∈ u_ws RX4 TX4 16, w ∈ wsX0_init := by first | exact fun w h9 => (List.mem_cons_of_mem _ (List.mem_append_right _ h9)) | decide +kernel
  refine va_new (ci := 4) (fs := [.null, .int 0, .int 0, .int 0, .int 0, .int 0, .int 0, .int 0, .int 0, .int 0, .int 0, .int 0, .int 0, .int 0, .int 0, .int 0]) (C := RX4) (T := TX4) (N := 16) hx hb hts inX4 tyX4 tyX4_ok hown (hts (.classLink RX0 36 RX4) (by first | exact List.mem_of_getElem? (i := 16) rfl | decide +kernel)) (hts (.instantiable RX4 16) (by first | exact List.mem_of_getElem? (i := 17) rfl | decide +kernel)) (hts (.initialized RX4) (by first | exact List.mem_of_getElem? (i := 18) rfl | decide +kernel)) hK hP hD hS hA rfl (by decide +kernel) (Nat.le_of_ble_eq_true rfl) (Nat.le_of_ble_eq_true rfl) dX0_init_71 (fun q_18 H hP hD hS => ?_)
  refine W.widen (k := 10) (n := 175) (Nat.le_of_ble_eq_true rfl) (Nat.le_of_ble_eq_true rfl) ?_
  have hP : va_P E.1 vwCl [(h0, .inr (0, [.ref q_1, .ref q_2, .int 0, .ref q_7, .ref q_14, .null])), (q_1, .inl (E.2.1 0, 25, .inl (fun _ => 0))), (q_2, .inl (E.2.1 0, 4, .inl f_6)), (q_7, .inr (7, [.ref q_10, .ref q_11, .ref q_12, .ref q_13, .int 0])), (q_10, .inl (E.2.1 0, 12, .inl (fun _ => 0))), (q_11, .inl (E.2.1 1, 12, .inl (fun _ => 0))), (q_12, .inl (E.2.1 0, 12, .inl (fun _ => 0))), (q_13, .inl (E.2.1 0, 12, .inl (fun _ => 0))), (q_14, .inr (1, [.ref q_17, .int 0, .int 0, .int 9, .int 0])), (q_17, .inl (E.2.1 0, 72, .inl (fun _ => 0))), (q_18, .inr (4, [.null, .int 0, .int 0, .int 0, .int 0, .int 0, .int 0, .int 0, .int 0, .int 0, .int 0, .int 0, .int 0, .int 0, .int 0, .int 0]))] H := hP
  have hD : va_D A [(h0, .inr (0, [.ref q_1, .ref q_2, .int 0, .ref q_7, .ref q_14, .null])), (q_1, .inl (E.2.1 0, 25, .inl (fun _ => 0))), (q_2, .inl (E.2.1 0, 4, .inl f_6)), (q_7, .inr (7, [.ref q_10, .ref q_11, .ref q_12, .ref q_13, .int 0])), (q_10, .inl (E.2.1 0, 12, .inl (fun _ => 0))), (q_11, .inl (E.2.1 1, 12, .inl (fun _ => 0))), (q_12, .inl (E.2.1 0, 12, .inl (fun _ => 0))), (q_13, .inl (E.2.1 0, 12, .inl (fun _ => 0))), (q_14, .inr (1, [.ref q_17, .int 0, .int 0, .int 9, .int 0])), (q_17, .inl (E.2.1 0, 72, .inl (fun _ => 0))), (q_18, .inr (4, [.null, .int 0, .int 0, .int 0, .int 0, .int 0, .int 0, .int 0, .int 0, .int 0, .int 0, .int 0, .int 0, .int 0, .int 0, .int 0]))] := hD
  refine lv_dup hx hb dX0_init_74 rfl ?_
  have hPc := hP.sub (ws' := [(q_18, .inr (4, [.null, .int 0, .int 0, .int 0, .int 0, .int 0, .int 0, .int 0, .int 0, .int 0, .int 0, .int 0, .int 0, .int 0, .int 0, .int 0]))]) [10] rfl
  have hDc := hD.sub (ws' := [(q_18, .inr (4, [.null, .int 0, .int 0, .int 0, .int 0, .int 0, .int 0, .int 0, .int 0, .int 0, .int 0, .int 0, .int 0, .int 0, .int 0, .int 0]))]) [10] (by decide) rfl
  have hFc := va_free (wc := [(q_18, .inr (4, [.null, .int 0, .int 0, .int 0, .int 0, .int 0, .int 0, .int 0, .int 0, .int 0, .int 0, .int 0, .int 0, .int 0, .int 0, .int 0]))]) hD hS hA [10] rfl
  refine va_callv (va_runIN (As := []) (rest := [.ref q_18, .ref h0]) ⟨hx, hb, hml, hown, hts⟩ (c_X4_init l E q_18 H.size ) ⟨va_cnB 0 hts gX0_init_X4_init_n38 rfl rfl rfl (hkn.2.1 (.methodLinkNest RX0 38 yX4_init "BoatsHome") (by decide +kernel)) (hts (.initialized RX4) (by first | exact List.mem_of_getElem? (i := 18) rfl | decide +kernel)) (by decide +kernel) ⟨Nat.le_of_ble_eq_true rfl, Nat.le_of_ble_eq_true rfl⟩, rfl, hts (.instanceMethod yX4_init) (by first | exact List.mem_of_getElem? (i := 37) rfl | decide +kernel)⟩ ⟨pcW_blind, (pcW_pre hPc hkn hDc hst hS hFc)⟩ rfl rfl hl.1 rfl (lv_room (Nat.le_of_ble_eq_true rfl)) dX0_init_75 ⟨Nat.le_of_ble_eq_true rfl, Nat.le_of_ble_eq_true rfl⟩) hS (fun q _ h => hFc q h) hFc (fun u t H1 locs ht hvm hw_20 hB hz1 hk1 hS => ?_)
  obtain ⟨q_21, hP1, hD1⟩ := hB
  rw [ht] at hP1
  try dsimp only at hw_20
  obtain ⟨hP, hD⟩ := va_join (wr := [(h0, .inr (0, [.ref q_1, .ref q_2, .int 0, .ref q_7, .ref q_14, .null])), (q_1, .inl (E.2.1 0, 25, .inl (fun _ => 0))), (q_2, .inl (E.2.1 0, 4, .inl f_6)), (q_7, .inr (7, [.ref q_10, .ref q_11, .ref q_12, .ref q_13, .int 0])), (q_10, .inl (E.2.1 0, 12, .inl (fun _ => 0))), (q_11, .inl (E.2.1 1, 12, .inl (fun _ => 0))), (q_12, .inl (E.2.1 0, 12, .inl (fun _ => 0))), (q_13, .inl (E.2.1 0, 12, .inl (fun _ => 0))), (q_14, .inr (1, [.ref q_17, .int 0, .int 0, .int 9, .int 0])), (q_17, .inl (E.2.1 0, 72, .inl (fun _ => 0)))]) (w1 := [(q_18, .inr (4, [.ref q_21, .int 0, .int 0, .int (-1), .int 0, .int 0, .int 0, .int 0, .int 0, .int 0, .int 0, .int 0, .int 0, .int 0, .int (-1), .int 0])), (q_21, .inl (E.2.1 0, 8, .inl (fun _ => 0)))]) hP hD [10] [0, 1, 2, 3, 4, 5, 6, 7, 8, 9] rfl rfl (by decide) (by decide) hk1 hFc hP1 hD1
  generalize H1 = H at hP hS ⊢
  have hP : va_P E.1 vwCl [(h0, .inr (0, [.ref q_1, .ref q_2, .int 0, .ref q_7, .ref q_14, .null])), (q_1, .inl (E.2.1 0, 25, .inl (fun _ => 0))), (q_2, .inl (E.2.1 0, 4, .inl f_6)), (q_7, .inr (7, [.ref q_10, .ref q_11, .ref q_12, .ref q_13, .int 0])), (q_10, .inl (E.2.1 0, 12, .inl (fun _ => 0))), (q_11, .inl (E.2.1 1, 12, .inl (fun _ => 0))), (q_12, .inl (E.2.1 0, 12, .inl (fun _ => 0))), (q_13, .inl (E.2.1 0, 12, .inl (fun _ => 0))), (q_14, .inr (1, [.ref q_17, .int 0, .int 0, .int 9, .int 0])), (q_17, .inl (E.2.1 0, 72, .inl (fun _ => 0))), (q_18, .inr (4, [.ref q_21, .int 0, .int 0, .int (-1), .int 0, .int 0, .int 0, .int 0, .int 0, .int 0, .int 0, .int 0, .int 0, .int 0, .int (-1), .int 0])), (q_21, .inl (E.2.1 0, 8, .inl (fun _ => 0)))] H := hP
  have hD : va_D A [(h0, .inr (0, [.ref q_1, .ref q_2, .int 0, .ref q_7, .ref q_14, .null])), (q_1, .inl (E.2.1 0, 25, .inl (fun _ => 0))), (q_2, .inl (E.2.1 0, 4, .inl f_6)), (q_7, .inr (7, [.ref q_10, .ref q_11, .ref q_12, .ref q_13, .int 0])), (q_10, .inl (E.2.1 0, 12, .inl (fun _ => 0))), (q_11, .inl (E.2.1 1, 12, .inl (fun _ => 0))), (q_12, .inl (E.2.1 0, 12, .inl (fun _ => 0))), (q_13, .inl (E.2.1 0, 12, .inl (fun _ => 0))), (q_14, .inr (1, [.ref q_17, .int 0, .int 0, .int 9, .int 0])), (q_17, .inl (E.2.1 0, 72, .inl (fun _ => 0))), (q_18, .inr (4, [.ref q_21, .int 0, .int 0, .int (-1), .int 0, .int 0, .int 0, .int 0, .int 0, .int 0, .int 0, .int 0, .int 0, .int 0, .int (-1), .int 0])), (q_21, .inl (E.2.1 0, 8, .inl (fun _ => 0)))] := hD
  refine W.widen (k := 11) (n := 183) (Nat.le_of_ble_eq_true rfl) (Nat.le_of_ble_eq_true rfl) ?_
  refine va_putF (D := E.1) (ci := 0) (v := .ref q_18) (ty := .object "BoatsHome$Passage") (C := RX0) (T := TX0) (N := 6) hx hb hts inX0 tyX0 tyX0_ok nmX0 hown hK hP hD hS 0 rfl rfl 5 (by decide) fl39 (fun _ h9 => h9) rfl hin rfl (by decide +kernel) rfl rfl (Nat.le_of_ble_eq_true rfl) dX0_init_78 (fun H locs hP hD hS => ?_)
  have hP : va_P E.1 vwCl [(h0, .inr (0, [.ref q_1, .ref q_2, .int 0, .ref q_7, .ref q_14, .ref q_18])), (q_1, .inl (E.2.1 0, 25, .inl (fun _ => 0))), (q_2, .inl (E.2.1 0, 4, .inl f_6)), (q_7, .inr (7, [.ref q_10, .ref q_11, .ref q_12, .ref q_13, .int 0])), (q_10, .inl (E.2.1 0, 12, .inl (fun _ => 0))), (q_11, .inl (E.2.1 1, 12, .inl (fun _ => 0))), (q_12, .inl (E.2.1 0, 12, .inl (fun _ => 0))), (q_13, .inl (E.2.1 0, 12, .inl (fun _ => 0))), (q_14, .inr (1, [.ref q_17, .int 0, .int 0, .int 9, .int 0])), (q_17, .inl (E.2.1 0, 72, .inl (fun _ => 0))), (q_18, .inr (4, [.ref q_21, .int 0, .int 0, .int (-1), .int 0, .int 0, .int 0, .int 0, .int 0, .int 0, .int 0, .int 0, .int 0, .int 0, .int (-1), .int 0])), (q_21, .inl (E.2.1 0, 8, .inl (fun _ => 0)))] H := hP
  have hD : va_D A [(h0, .inr (0, [.ref q_1, .ref q_2, .int 0, .ref q_7, .ref q_14, .ref q_18])), (q_1, .inl (E.2.1 0, 25, .inl (fun _ => 0))), (q_2, .inl (E.2.1 0, 4, .inl f_6)), (q_7, .inr (7, [.ref q_10, .ref q_11, .ref q_12, .ref q_13, .int 0])), (q_10, .inl (E.2.1 0, 12, .inl (fun _ => 0))), (q_11, .inl (E.2.1 1, 12, .inl (fun _ => 0))), (q_12, .inl (E.2.1 0, 12, .inl (fun _ => 0))), (q_13, .inl (E.2.1 0, 12, .inl (fun _ => 0))), (q_14, .inr (1, [.ref q_17, .int 0, .int 0, .int 9, .int 0])), (q_17, .inl (E.2.1 0, 72, .inl (fun _ => 0))), (q_18, .inr (4, [.ref q_21, .int 0, .int 0, .int (-1), .int 0, .int 0, .int 0, .int 0, .int 0, .int 0, .int 0, .int 0, .int 0, .int 0, .int (-1), .int 0])), (q_21, .inl (E.2.1 0, 8, .inl (fun _ => 0)))] := hD
  have hP9 := hP.sub (ws' := [(h0, .inr (0, [.ref q_1, .ref q_2, .int 0, .ref q_7, .ref q_14, .ref q_18])), (q_1, .inl (E.2.1 0, 25, .inl (fun _ => 0))), (q_2, .inl (E.2.1 0, 4, .inl f_6)), (q_7, .inr (7, [.ref q_10, .ref q_11, .ref q_12, .ref q_13, .int 0])), (q_10, .inl (E.2.1 0, 12, .inl (fun _ => 0))), (q_11, .inl (E.2.1 1, 12, .inl (fun _ => 0))), (q_12, .inl (E.2.1 0, 12, .inl (fun _ => 0))), (q_13, .inl (E.2.1 0, 12, .inl (fun _ => 0))), (q_14, .inr (1, [.ref q_17, .int 0, .int 0, .int 9, .int 0])), (q_17, .inl (E.2.1 0, 72, .inl (fun _ => 0))), (q_18, .inr (4, [.ref q_21, .int 0, .int 0, .int (-1), .int 0, .int 0, .int 0, .int 0, .int 0, .int 0, .int 0, .int 0, .int 0, .int 0, .int (-1), .int 0])), (q_21, .inl (E.2.1 0, 8, .inl (fun _ => 0)))]) [0, 1, 2, 3, 4, 5, 6, 7, 8, 9, 10, 11] rfl
  have hD9 := hD.sub (ws' := [(h0, .inr (0, [.ref q_1, .ref q_2, .int 0, .ref q_7, .ref q_14, .ref q_18])), (q_1, .inl (E.2.1 0, 25, .inl (fun _ => 0))), (q_2, .inl (E.2.1 0, 4, .inl f_6)), (q_7, .inr (7, [.ref q_10, .ref q_11, .ref q_12, .ref q_13, .int 0])), (q_10, .inl (E.2.1 0, 12, .inl (fun _ => 0))), (q_11, .inl (E.2.1 1, 12, .inl (fun _ => 0))), (q_12, .inl (E.2.1 0, 12, .inl (fun _ => 0))), (q_13, .inl (E.2.1 0, 12, .inl (fun _ => 0))), (q_14, .inr (1, [.ref q_17, .int 0, .int 0, .int 9, .int 0])), (q_17, .inl (E.2.1 0, 72, .inl (fun _ => 0))), (q_18, .inr (4, [.ref q_21, .int 0, .int 0, .int (-1), .int 0, .int 0, .int 0, .int 0, .int 0, .int 0, .int 0, .int 0, .int 0, .int 0, .int (-1), .int 0])), (q_21, .inl (E.2.1 0, 8, .inl (fun _ => 0)))]) [0, 1, 2, 3, 4, 5, 6, 7, 8, 9, 10, 11] (by decide) rfl
  exact W.vret hx hb hr (fun t ht hW => ⟨⟨(), rfl, trivial, (fun k => match k with | 0 => q_1 | 1 => q_2 | 2 => q_7 | 3 => q_10 | 4 => q_11 | 5 => q_12 | 6 => q_13 | 7 => q_14 | 8 => q_17 | 9 => q_18 | _ => q_21), f_6, (fun k hk => by rw [ef_6, ef_5, ef_4, ef_3]; rcases (show k = 0 ∨ k = 1 ∨ k = 2 ∨ k = 3 by omega) with rfl | rfl | rfl | rfl <;> decide +kernel), by rw [ht]; exact hP9, hD9⟩, hS.F ht⟩) hS.2.2 dX0_init_81
