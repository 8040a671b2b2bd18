set_option maxHeartbeats 4000000 in
set_option maxRecDepth 100000 in
theorem lm_tries7 {p : Program} {l : Launch} {e : Env} {s : State} {m : MethodId} {args : Array Value} {below : List Frame} {meth : Method} {c : Code} {Q : State → Prop} {A : Nat → Prop} (E : vE) (h0 : Nat) (q : Nat → Nat) (i_taped : Int32) (i_size : Int32) (i_sort : Int32) (i_what : Int32) (i_at : Int32) (i_end : Int32) (i_worth : Int32) (i_faultKind : Int32) (i_faultPlace : Int32) (i_got : Int32) (i_worked : Int32) (i_isPlanned : Int32) (i_bestDone : Int32) (i_bestCost : Int32) (dl : Nat) (cr : Nat) (po : Nat) (se_ : Nat) (ro : Nat) (da : Int32) (co_ : Int32) (a_flights : Nat → Int32) (a_dFrom : Nat → Int32) (a_dTo : Nat → Int32) (a_dDays : Nat → Int32) (a_dFirst : Nat → Int32) (a_dLast : Nat → Int32) (hx : p.tables.exec = Jvm.exec) (hb : c.code = cX12_tries) (hml : c.maxLocals = 11) (hown : s.vm.findClass RX12 = some m.cls) (hts : ∀ w ∈ wsX12_tries, w.before args s = true) (hkn : kn E s) (hst : st E A s s.heap) (hA : ∀ q : Nat, s.heap.size ≤ q → A q) (hcr : cr < 4) (hpo : po ≤ 9) (hse : se_ < 128) (hdl : dl ≤ 7) (hbc : bc7 se_ = 7) (hro : dg ro 7) (hI_dFrom : ∀ k : Nat, k < 7 → inR (a_dFrom k) 0 9 = true) (hI_dTo : ∀ k : Nat, k < 7 → inR (a_dTo k) 0 9 = true) (kk : ∀ (a_least : Nat → Int32) (a_order : Nat → Int32) (H : Heap) (locs : List Loc) (ls : Array Slot), (∀ k : Nat, k < 512 → digOK (a_order k)) → va_P E.1 vwCl [(h0, .inr (12, mG q i_taped i_size i_sort i_what i_at i_end i_worth i_faultKind i_faultPlace i_got i_worked (nI dl) i_isPlanned i_bestDone i_bestCost)), (q 51, .inl (E.2.1 0, 512, .inl a_least)), (q 52, .inl (E.2.1 0, 512, .inl a_order)), (q 49, .inl (E.2.1 0, 100, .inl a_flights)), (q 42, .inl (E.2.1 0, 7, .inl a_dFrom)), (q 43, .inl (E.2.1 0, 7, .inl a_dTo)), (q 44, .inl (E.2.1 0, 7, .inl a_dDays)), (q 45, .inl (E.2.1 0, 7, .inl a_dFirst)), (q 46, .inl (E.2.1 0, 7, .inl a_dLast))] H → va_D A [(h0, .inr (12, mG q i_taped i_size i_sort i_what i_at i_end i_worth i_faultKind i_faultPlace i_got i_worked (nI dl) i_isPlanned i_bestDone i_bestCost)), (q 51, .inl (E.2.1 0, 512, .inl a_least)), (q 52, .inl (E.2.1 0, 512, .inl a_order)), (q 49, .inl (E.2.1 0, 100, .inl a_flights)), (q 42, .inl (E.2.1 0, 7, .inl a_dFrom)), (q 43, .inl (E.2.1 0, 7, .inl a_dTo)), (q 44, .inl (E.2.1 0, 7, .inl a_dDays)), (q 45, .inl (E.2.1 0, 7, .inl a_dFirst)), (q 46, .inl (E.2.1 0, 7, .inl a_dLast))] → va_S A s.heap H locs → lv_has ls 11 [(0, .ref h0)] → W p l e ({ frames := 0, cells := 0, slots := 0, locals := 0 }) s m args below meth c H locs 0 0 Q (F0 m 246 ls [])) : ∀ (n0 : Nat) (k : Nat) (a_least : Nat → Int32) (a_order : Nat → Int32) (H : Heap) (locs : List Loc) (ls : Array Slot), 8 - k < n0 → (k ≤ 7) → (∀ k : Nat, k < 512 → digOK (a_order k)) → va_P E.1 vwCl [(h0, .inr (12, mG q i_taped i_size i_sort i_what i_at i_end i_worth i_faultKind i_faultPlace i_got i_worked (nI dl) i_isPlanned i_bestDone i_bestCost)), (q 51, .inl (E.2.1 0, 512, .inl a_least)), (q 52, .inl (E.2.1 0, 512, .inl a_order)), (q 49, .inl (E.2.1 0, 100, .inl a_flights)), (q 42, .inl (E.2.1 0, 7, .inl a_dFrom)), (q 43, .inl (E.2.1 0, 7, .inl a_dTo)), (q 44, .inl (E.2.1 0, 7, .inl a_dDays)), (q 45, .inl (E.2.1 0, 7, .inl a_dFirst)), (q 46, .inl (E.2.1 0, 7, .inl a_dLast))] H → va_D A [(h0, .inr (12, mG q i_taped i_size i_sort i_what i_at i_end i_worth i_faultKind i_faultPlace i_got i_worked (nI dl) i_isPlanned i_bestDone i_bestCost)), (q 51, .inl (E.2.1 0, 512, .inl a_least)), (q 52, .inl (E.2.1 0, 512, .inl a_order)), (q 49, .inl (E.2.1 0, 100, .inl a_flights)), (q 42, .inl (E.2.1 0, 7, .inl a_dFrom)), (q 43, .inl (E.2.1 0, 7, .inl a_dTo)), (q 44, .inl (E.2.1 0, 7, .inl a_dDays)), (q 45, .inl (E.2.1 0, 7, .inl a_dFirst)), (q 46, .inl (E.2.1 0, 7, .inl a_dLast))] → va_S A s.heap H locs → lv_has ls 11 [(0, .ref h0), (1, .int (nI cr)), (2, .int (nI po)), (3, .int da), (4, .int (nI se_)), (5, .int (nI ro)), (6, .int co_), (8, .int (nI k))] → W p l e ({ frames := 0, cells := 0, slots := 0, locals := 0 }) s m args below meth c H locs 0 0 Q (F0 m 78 ls []) := by
  have hK := hkn.1
  have hAO := hkn.2.2.1
  have fl106 := hts (.fieldLink RX12 106 "BoatsHomeModel" "dFrom" "[I") (by first | exact List.mem_of_getElem? (i := 5) rfl | decide +kernel)
  have fl109 := hts (.fieldLink RX12 109 "BoatsHomeModel" "dTo" "[I") (by first | exact List.mem_of_getElem? (i := 8) rfl | decide +kernel)
  have fl112 := hts (.fieldLink RX12 112 "BoatsHomeModel" "dDays" "[I") (by first | exact List.mem_of_getElem? (i := 9) rfl | decide +kernel)
  have fl115 := hts (.fieldLink RX12 115 "BoatsHomeModel" "dFirst" "[I") (by first | exact List.mem_of_getElem? (i := 6) rfl | decide +kernel)
  have fl118 := hts (.fieldLink RX12 118 "BoatsHomeModel" "dLast" "[I") (by first | exact List.mem_of_getElem? (i := 7) rfl | decide +kernel)
  have fl127 := hts (.fieldLink RX12 127 "BoatsHomeModel" "flights" "[I") (by first | exact List.mem_of_getElem? (i := 4) rfl | decide +kernel)
  have fl130 := hts (.fieldLink RX12 130 "BoatsHomeModel" "least" "[I") (by first | exact List.mem_of_getElem? (i := 1) rfl | decide +kernel)
  have fl133 := hts (.fieldLink RX12 133 "BoatsHomeModel" "order" "[I") (by first | exact List.mem_of_getElem? (i := 2) rfl | decide +kernel)
  have fl289 := hts (.fieldLink RX12 289 "BoatsHomeModel" "deliveries" "I") (by first | exact List.mem_of_getElem? (i := 3) rfl | decide +kernel)
  have inX12 : ∀ w ∈ u_ws RX12 TX12 59, w ∈ wsX12_tries := by first | exact fun w h9 => (List.mem_cons_of_mem _ (List.mem_append_right _ h9)) | decide +kernel
  intro n0
  induction n0 with
  | zero =>
    intro k a_least a_order H locs ls hn0
    exact absurd hn0 (Nat.not_lt_zero _)
  | succ n0 ih =>
    intro k a_least a_order H locs ls hn0 hk hI_order hP hD hS hl
    refine lv_iload hx hb dX12_tries_78 (lv_at hl 7 rfl) ?_
    refine lv_aload_n hx hb dX12_tries_80 rfl (lv_at hl 0 rfl) ?_
    refine va_get (D := E.1) (ci := 12) (v := .int (nI dl)) (C := RX12) (T := TX12) (N := 59) hx hb hts inX12 hown hK hP 0 rfl rfl 41 (by decide) fl289 (fun _ h9 => h9) rfl dX12_tries_81 ?_
    refine lv_icmp_ge (tgt := 246) hx hb dX12_tries_84 (by decide) (fun c_1 => ?_) (fun c_1 => ?_)
    · exact kk a_least a_order _ _ _ hI_order (hP.sub [0, 1, 2, 3, 4, 5, 6, 7, 8] rfl) (hD.sub [0, 1, 2, 3, 4, 5, 6, 7, 8] (by decide) rfl) hS (lv_sub hl [0] rfl)
    · have hlt : k < 7 := by have := lt_of_nle (by omega) c_1; omega
      refine lv_iload hx hb dX12_tries_87 (lv_at hl 4 rfl) ?_
      refine lv_iload hx hb dX12_tries_89 (lv_at hl 7 rfl) ?_
      refine lv_ishr hx hb dX12_tries_91 ?_
      refine lv_topi (fun x_2 ex_2 => ?_)
      refine lv_iconst (v := 1) hx hb dX12_tries_92 (by decide) ?_
      refine lv_iand hx hb dX12_tries_93 ?_
      refine lv_topi (fun x_3 ex_3 => ?_)
      refine lv_iconst (v := 1) hx hb dX12_tries_94 (by decide) ?_
      refine lv_icmp_eq (tgt := 240) hx hb dX12_tries_95 (by decide) (fun c9 => ?_) (fun c9 => absurd c9 (fun h => h (by rw [ex_3, ex_2]; exact tr_all7 _ hse hbc _ hlt)))
      refine lv_iinc (v := (nI (k + 1))) (lv' := [(8, .int (nI (k + 1))), (0, .ref h0), (1, .int (nI cr)), (2, .int (nI po)), (3, .int da), (4, .int (nI se_)), (5, .int (nI ro)), (6, .int co_)]) hx hb dX12_tries_240 hl (k := 7) rfl (show nI k + 1 = nI (k + 1) from nI_1 k) (by decide) rfl (fun ls hl => ?_)
      refine lv_goto (tgt := 78) hx hb dX12_tries_243 (by decide) ?_
      exact ih (k + 1) a_least a_order _ _ _ (by omega) (by omega) hI_order (hP.sub [0, 1, 2, 3, 4, 5, 6, 7, 8] rfl) (hD.sub [0, 1, 2, 3, 4, 5, 6, 7, 8] (by decide) rfl) hS (lv_sub hl [1, 2, 3, 4, 5, 6, 7, 0] rfl)
set_option maxHeartbeats 4000000 in
set_option maxRecDepth 100000 in
theorem c_X12_tries7 (l : Launch) (E : vE) (h0 : Nat) (q : Nat → Nat) (i_taped : Int32) (i_size : Int32) (i_sort : Int32) (i_what : Int32) (i_at : Int32) (i_end : Int32) (i_worth : Int32) (i_faultKind : Int32) (i_faultPlace : Int32) (i_got : Int32) (i_worked : Int32) (i_isPlanned : Int32) (i_bestDone : Int32) (i_bestCost : Int32) (dl : Nat) (cr : Nat) (po : Nat) (se_ : Nat) (ro : Nat) (a_least : Nat → Int32) (a_order : Nat → Int32) (a_flights : Nat → Int32) (a_dFrom : Nat → Int32) (a_dTo : Nat → Int32) (a_dDays : Nat → Int32) (a_dFirst : Nat → Int32) (a_dLast : Nat → Int32) (da : Int32) (co_ : Int32) (sz : Nat) (hcr : cr < 4) (hpo : po ≤ 9) (hse : se_ < 128) (hdl : dl ≤ 7) (hbc : bc7 se_ = 7) (hro : dg ro 7) (hI_order : ∀ k : Nat, k < 512 → digOK (a_order k)) (hI_dFrom : ∀ k : Nat, k < 7 → inR (a_dFrom k) 0 9 = true) (hI_dTo : ∀ k : Nat, k < 7 → inR (a_dTo k) 0 9 = true) : Met l yX12_tries wsX12_tries ({ frames := 0, cells := 0, slots := 0, locals := 0 }) (pcW E [.ref h0, .int (nI cr), .int (nI po), .int da, .int (nI se_), .int (nI ro), .int co_] sz [(h0, .inr (12, mG q i_taped i_size i_sort i_what i_at i_end i_worth i_faultKind i_faultPlace i_got i_worked (nI dl) i_isPlanned i_bestDone i_bestCost)), (q 51, .inl (E.2.1 0, 512, .inl a_least)), (q 52, .inl (E.2.1 0, 512, .inl a_order)), (q 49, .inl (E.2.1 0, 100, .inl a_flights)), (q 42, .inl (E.2.1 0, 7, .inl a_dFrom)), (q 43, .inl (E.2.1 0, 7, .inl a_dTo)), (q 44, .inl (E.2.1 0, 7, .inl a_dDays)), (q 45, .inl (E.2.1 0, 7, .inl a_dFirst)), (q 46, .inl (E.2.1 0, 7, .inl a_dLast))]) (va_Qv (fun (u : (Nat → Int32) × (Nat → Int32)) => match u with | (b_least, b_order) => True) (fun (u : (Nat → Int32) × (Nat → Int32)) (t : State) => match u with | (b_least, b_order) => (∀ k : Nat, k < 512 → digOK (b_order k)) ∧ wB E (va_A [(h0, .inr (12, mG q i_taped i_size i_sort i_what i_at i_end i_worth i_faultKind i_faultPlace i_got i_worked (nI dl) i_isPlanned i_bestDone i_bestCost)), (q 51, .inl (E.2.1 0, 512, .inl a_least)), (q 52, .inl (E.2.1 0, 512, .inl a_order)), (q 49, .inl (E.2.1 0, 100, .inl a_flights)), (q 42, .inl (E.2.1 0, 7, .inl a_dFrom)), (q 43, .inl (E.2.1 0, 7, .inl a_dTo)), (q 44, .inl (E.2.1 0, 7, .inl a_dDays)), (q 45, .inl (E.2.1 0, 7, .inl a_dFirst)), (q 46, .inl (E.2.1 0, 7, .inl a_dLast))] sz) [(h0, .inr (12, mG q i_taped i_size i_sort i_what i_at i_end i_worth i_faultKind i_faultPlace i_got i_worked (nI dl) i_isPlanned i_bestDone i_bestCost)), (q 51, .inl (E.2.1 0, 512, .inl b_least)), (q 52, .inl (E.2.1 0, 512, .inl b_order)), (q 49, .inl (E.2.1 0, 100, .inl a_flights)), (q 42, .inl (E.2.1 0, 7, .inl a_dFrom)), (q 43, .inl (E.2.1 0, 7, .inl a_dTo)), (q 44, .inl (E.2.1 0, 7, .inl a_dDays)), (q 45, .inl (E.2.1 0, 7, .inl a_dFirst)), (q 46, .inl (E.2.1 0, 7, .inl a_dLast))] t) (va_A [(h0, .inr (12, mG q i_taped i_size i_sort i_what i_at i_end i_worth i_faultKind i_faultPlace i_got i_worked (nI dl) i_isPlanned i_bestDone i_bestCost)), (q 51, .inl (E.2.1 0, 512, .inl a_least)), (q 52, .inl (E.2.1 0, 512, .inl a_order)), (q 49, .inl (E.2.1 0, 100, .inl a_flights)), (q 42, .inl (E.2.1 0, 7, .inl a_dFrom)), (q 43, .inl (E.2.1 0, 7, .inl a_dTo)), (q 44, .inl (E.2.1 0, 7, .inl a_dDays)), (q 45, .inl (E.2.1 0, 7, .inl a_dFirst)), (q 46, .inl (E.2.1 0, 7, .inl a_dLast))] sz)) 0 0 (va_A [(h0, .inr (12, mG q i_taped i_size i_sort i_what i_at i_end i_worth i_faultKind i_faultPlace i_got i_worked (nI dl) i_isPlanned i_bestDone i_bestCost)), (q 51, .inl (E.2.1 0, 512, .inl a_least)), (q 52, .inl (E.2.1 0, 512, .inl a_order)), (q 49, .inl (E.2.1 0, 100, .inl a_flights)), (q 42, .inl (E.2.1 0, 7, .inl a_dFrom)), (q 43, .inl (E.2.1 0, 7, .inl a_dTo)), (q 44, .inl (E.2.1 0, 7, .inl a_dDays)), (q 45, .inl (E.2.1 0, 7, .inl a_dFirst)), (q 46, .inl (E.2.1 0, 7, .inl a_dLast))] sz) := by
  refine Met.ofW (cc := cX12_tries) (maxL := 11) (ret := none) (by decide) rfl ?_
  intro p e s m args below meth c s₁ B hml hv
  obtain ⟨rfl, hsz, hP, hkn, hD0, hst⟩ := hv
  have hx := B.exec
  have hb := B.bytes
  have hr := B.returns
  have hts := atoms_spec (ws := wsX12_tries) B.pre
  have hown : s.vm.findClass RX12 = some m.cls := findClass_of_methodNamed B.named
  have hlocks := B.notSynchronized
  subst hsz
  have hD := hD0.self (sz := s.heap.size)
  have hK := hkn.1
  have hAO := hkn.2.2.1
  generalize hAe : va_A [(h0, .inr (12, mG q i_taped i_size i_sort i_what i_at i_end i_worth i_faultKind i_faultPlace i_got i_worked (nI dl) i_isPlanned i_bestDone i_bestCost)), (q 51, .inl (E.2.1 0, 512, .inl a_least)), (q 52, .inl (E.2.1 0, 512, .inl a_order)), (q 49, .inl (E.2.1 0, 100, .inl a_flights)), (q 42, .inl (E.2.1 0, 7, .inl a_dFrom)), (q 43, .inl (E.2.1 0, 7, .inl a_dTo)), (q 44, .inl (E.2.1 0, 7, .inl a_dDays)), (q 45, .inl (E.2.1 0, 7, .inl a_dFirst)), (q 46, .inl (E.2.1 0, 7, .inl a_dLast))] s.heap.size = A at hD hst ⊢
  have hA : ∀ q : Nat, s.heap.size ≤ q → A q := fun q h => by rw [← hAe]; exact Or.inr h
  have hS : va_S A s.heap s.heap [] := va_S.rf
  have hP : va_P E.1 vwCl [(h0, .inr (12, mG q i_taped i_size i_sort i_what i_at i_end i_worth i_faultKind i_faultPlace i_got i_worked (nI dl) i_isPlanned i_bestDone i_bestCost)), (q 51, .inl (E.2.1 0, 512, .inl a_least)), (q 52, .inl (E.2.1 0, 512, .inl a_order)), (q 49, .inl (E.2.1 0, 100, .inl a_flights)), (q 42, .inl (E.2.1 0, 7, .inl a_dFrom)), (q 43, .inl (E.2.1 0, 7, .inl a_dTo)), (q 44, .inl (E.2.1 0, 7, .inl a_dDays)), (q 45, .inl (E.2.1 0, 7, .inl a_dFirst)), (q 46, .inl (E.2.1 0, 7, .inl a_dLast))] s.heap := hP
  have hl := lv_entry ([.ref h0, .int (nI cr), .int (nI po), .int da, .int (nI se_), .int (nI ro), .int co_]) (n := 11) (Nat.le_of_ble_eq_true rfl)
  rw [lg_entry_eq]
  generalize (lg_sl ([.ref h0, .int (nI cr), .int (nI po), .int da, .int (nI se_), .int (nI ro), .int co_]) ++ List.replicate (11 - (lg_sl ([.ref h0, .int (nI cr), .int (nI po), .int da, .int (nI se_), .int (nI ro), .int co_])).length) Slot.unset).toArray = ls at hl ⊢
  have hl : lv_has ls 11 [(0, .ref h0), (1, .int (nI cr)), (2, .int (nI po)), (3, .int da), (4, .int (nI se_)), (5, .int (nI ro)), (6, .int co_)] := hl
  have fl106 := hts (.fieldLink RX12 106 "BoatsHomeModel" "dFrom" "[I") (by first | exact List.mem_of_getElem? (i := 5) rfl | decide +kernel)
  have fl109 := hts (.fieldLink RX12 109 "BoatsHomeModel" "dTo" "[I") (by first | exact List.mem_of_getElem? (i := 8) rfl | decide +kernel)
  have fl112 := hts (.fieldLink RX12 112 "BoatsHomeModel" "dDays" "[I") (by first | exact List.mem_of_getElem? (i := 9) rfl | decide +kernel)
  have fl115 := hts (.fieldLink RX12 115 "BoatsHomeModel" "dFirst" "[I") (by first | exact List.mem_of_getElem? (i := 6) rfl | decide +kernel)
  have fl118 := hts (.fieldLink RX12 118 "BoatsHomeModel" "dLast" "[I") (by first | exact List.mem_of_getElem? (i := 7) rfl | decide +kernel)
  have fl127 := hts (.fieldLink RX12 127 "BoatsHomeModel" "flights" "[I") (by first | exact List.mem_of_getElem? (i := 4) rfl | decide +kernel)
  have fl130 := hts (.fieldLink RX12 130 "BoatsHomeModel" "least" "[I") (by first | exact List.mem_of_getElem? (i := 1) rfl | decide +kernel)
  have fl133 := hts (.fieldLink RX12 133 "BoatsHomeModel" "order" "[I") (by first | exact List.mem_of_getElem? (i := 2) rfl | decide +kernel)
  have fl289 := hts (.fieldLink RX12 289 "BoatsHomeModel" "deliveries" "I") (by first | exact List.mem_of_getElem? (i := 3) rfl | decide +kernel)
  have inX12 : ∀ w ∈ u_ws RX12 TX12 59, w ∈ wsX12_tries := by first | exact fun w h9 => (List.mem_cons_of_mem _ (List.mem_append_right _ h9)) | decide +kernel
  refine lv_sipush (v := 128) hx hb dX12_tries_0 (by decide) ?_
  refine lv_iload_n hx hb dX12_tries_3 rfl (lv_at hl 1 rfl) ?_
  refine lv_imul hx hb dX12_tries_4 ?_
  refine lv_topi (fun x_1 ex_1 => ?_)
  obtain rfl : x_1 = nI (128 * cr) := ex_1.trans (pk_mul 128 cr)
  refine lv_iload hx hb dX12_tries_5 (lv_at hl 4 rfl) ?_
  refine lv_iadd hx hb dX12_tries_7 ?_
  refine lv_topi (fun x_2 ex_2 => ?_)
  obtain rfl : x_2 = nI ((128 * cr) + se_) := ex_2.trans (nI_add (128 * cr) se_)
  refine lv_istore (lv' := [(7, .int (nI ((128 * cr) + se_))), (0, .ref h0), (1, .int (nI cr)), (2, .int (nI po)), (3, .int da), (4, .int (nI se_)), (5, .int (nI ro)), (6, .int co_)]) hx hb dX12_tries_8 hl (by decide) rfl (fun ls hl => ?_)
  refine lv_aload_n hx hb dX12_tries_10 rfl (lv_at hl 1 rfl) ?_
  refine va_get (D := E.1) (ci := 12) (v := .ref (q 51)) (C := RX12) (T := TX12) (N := 59) hx hb hts inX12 hown hK hP 0 rfl rfl 51 (by decide) fl130 (fun _ h9 => h9) rfl dX12_tries_11 ?_
  refine lv_iload hx hb dX12_tries_14 (lv_at hl 0 rfl) ?_
  have hi_3 : vp_in (nI ((128 * cr) + se_)) 512 := vp_in_nI (by omega) (by decide)
  refine va_iald hx hb hK hP 1 0 rfl rfl hi_3 dX12_tries_16 ?_
  refine lv_topi (fun x_4 ex_4 => ?_)
  refine lv_iconst (v := (-1)) hx hb dX12_tries_17 (by decide) ?_
  refine lv_icmp_eq (tgt := 57) hx hb dX12_tries_18 (by decide) (fun c_5 => ?_) (fun c_5 => ?_)
  · refine lv_aload_n hx hb dX12_tries_57 rfl (lv_at hl 1 rfl) ?_
    refine va_get (D := E.1) (ci := 12) (v := .ref (q 51)) (C := RX12) (T := TX12) (N := 59) hx hb hts inX12 hown hK hP 0 rfl rfl 51 (by decide) fl130 (fun _ h9 => h9) rfl dX12_tries_58 ?_
    refine lv_iload hx hb dX12_tries_61 (lv_at hl 0 rfl) ?_
    refine lv_iload hx hb dX12_tries_63 (lv_at hl 7 rfl) ?_
    refine va_iast hx hb hK hP hD hS 1 0 rfl rfl hi_3 dX12_tries_65 (fun H locs hP hD hS => ?_)
    have hP : va_P E.1 vwCl [(h0, .inr (12, mG q i_taped i_size i_sort i_what i_at i_end i_worth i_faultKind i_faultPlace i_got i_worked (nI dl) i_isPlanned i_bestDone i_bestCost)), (q 51, .inl (E.2.1 0, 512, .inl (upd a_least (nI ((128 * cr) + se_)).toNatClampNeg co_))), (q 52, .inl (E.2.1 0, 512, .inl a_order)), (q 49, .inl (E.2.1 0, 100, .inl a_flights)), (q 42, .inl (E.2.1 0, 7, .inl a_dFrom)), (q 43, .inl (E.2.1 0, 7, .inl a_dTo)), (q 44, .inl (E.2.1 0, 7, .inl a_dDays)), (q 45, .inl (E.2.1 0, 7, .inl a_dFirst)), (q 46, .inl (E.2.1 0, 7, .inl a_dLast))] H := hP
    have hD : va_D A [(h0, .inr (12, mG q i_taped i_size i_sort i_what i_at i_end i_worth i_faultKind i_faultPlace i_got i_worked (nI dl) i_isPlanned i_bestDone i_bestCost)), (q 51, .inl (E.2.1 0, 512, .inl (upd a_least (nI ((128 * cr) + se_)).toNatClampNeg co_))), (q 52, .inl (E.2.1 0, 512, .inl a_order)), (q 49, .inl (E.2.1 0, 100, .inl a_flights)), (q 42, .inl (E.2.1 0, 7, .inl a_dFrom)), (q 43, .inl (E.2.1 0, 7, .inl a_dTo)), (q 44, .inl (E.2.1 0, 7, .inl a_dDays)), (q 45, .inl (E.2.1 0, 7, .inl a_dFirst)), (q 46, .inl (E.2.1 0, 7, .inl a_dLast))] := hD
    obtain ⟨f_6, ef_6⟩ : ∃ g : Nat → Int32, g = upd a_least (nI ((128 * cr) + se_)).toNatClampNeg co_ := ⟨_, rfl⟩
    rw [← ef_6] at hP hD
    refine lv_aload_n hx hb dX12_tries_66 rfl (lv_at hl 1 rfl) ?_
    refine va_get (D := E.1) (ci := 12) (v := .ref (q 52)) (C := RX12) (T := TX12) (N := 59) hx hb hts inX12 hown hK hP 0 rfl rfl 52 (by decide) fl133 (fun _ h9 => h9) rfl dX12_tries_67 ?_
    refine lv_iload hx hb dX12_tries_70 (lv_at hl 0 rfl) ?_
    refine lv_iload hx hb dX12_tries_72 (lv_at hl 6 rfl) ?_
    refine va_iast hx hb hK hP hD hS 2 0 rfl rfl hi_3 dX12_tries_74 (fun H locs hP hD hS => ?_)
    have hP : va_P E.1 vwCl [(h0, .inr (12, mG q i_taped i_size i_sort i_what i_at i_end i_worth i_faultKind i_faultPlace i_got i_worked (nI dl) i_isPlanned i_bestDone i_bestCost)), (q 51, .inl (E.2.1 0, 512, .inl f_6)), (q 52, .inl (E.2.1 0, 512, .inl (upd a_order (nI ((128 * cr) + se_)).toNatClampNeg (nI ro)))), (q 49, .inl (E.2.1 0, 100, .inl a_flights)), (q 42, .inl (E.2.1 0, 7, .inl a_dFrom)), (q 43, .inl (E.2.1 0, 7, .inl a_dTo)), (q 44, .inl (E.2.1 0, 7, .inl a_dDays)), (q 45, .inl (E.2.1 0, 7, .inl a_dFirst)), (q 46, .inl (E.2.1 0, 7, .inl a_dLast))] H := hP
    have hD : va_D A [(h0, .inr (12, mG q i_taped i_size i_sort i_what i_at i_end i_worth i_faultKind i_faultPlace i_got i_worked (nI dl) i_isPlanned i_bestDone i_bestCost)), (q 51, .inl (E.2.1 0, 512, .inl f_6)), (q 52, .inl (E.2.1 0, 512, .inl (upd a_order (nI ((128 * cr) + se_)).toNatClampNeg (nI ro)))), (q 49, .inl (E.2.1 0, 100, .inl a_flights)), (q 42, .inl (E.2.1 0, 7, .inl a_dFrom)), (q 43, .inl (E.2.1 0, 7, .inl a_dTo)), (q 44, .inl (E.2.1 0, 7, .inl a_dDays)), (q 45, .inl (E.2.1 0, 7, .inl a_dFirst)), (q 46, .inl (E.2.1 0, 7, .inl a_dLast))] := hD
    obtain ⟨f_7, ef_7⟩ : ∃ g : Nat → Int32, g = upd a_order (nI ((128 * cr) + se_)).toNatClampNeg (nI ro) := ⟨_, rfl⟩
    rw [← ef_7] at hP hD
    have hI_8 : ∀ k : Nat, k < 512 → digOK (f_7 k) := by rw [ef_7]; exact all_upd (P := fun z => digOK z) hI_order (dg_OK hro (by decide))
    refine lv_iconst (v := 0) hx hb dX12_tries_75 (by decide) ?_
    refine lv_istore (lv' := [(8, .int 0), (7, .int (nI ((128 * cr) + se_))), (0, .ref h0), (1, .int (nI cr)), (2, .int (nI po)), (3, .int da), (4, .int (nI se_)), (5, .int (nI ro)), (6, .int co_)]) hx hb dX12_tries_76 hl (by decide) rfl (fun ls hl => ?_)
    have hPl := hP.sub (ws' := [(h0, .inr (12, mG q i_taped i_size i_sort i_what i_at i_end i_worth i_faultKind i_faultPlace i_got i_worked (nI dl) i_isPlanned i_bestDone i_bestCost)), (q 51, .inl (E.2.1 0, 512, .inl f_6)), (q 52, .inl (E.2.1 0, 512, .inl f_7)), (q 49, .inl (E.2.1 0, 100, .inl a_flights)), (q 42, .inl (E.2.1 0, 7, .inl a_dFrom)), (q 43, .inl (E.2.1 0, 7, .inl a_dTo)), (q 44, .inl (E.2.1 0, 7, .inl a_dDays)), (q 45, .inl (E.2.1 0, 7, .inl a_dFirst)), (q 46, .inl (E.2.1 0, 7, .inl a_dLast))]) [0, 1, 2, 3, 4, 5, 6, 7, 8] rfl
    have hDl := hD.sub (ws' := [(h0, .inr (12, mG q i_taped i_size i_sort i_what i_at i_end i_worth i_faultKind i_faultPlace i_got i_worked (nI dl) i_isPlanned i_bestDone i_bestCost)), (q 51, .inl (E.2.1 0, 512, .inl f_6)), (q 52, .inl (E.2.1 0, 512, .inl f_7)), (q 49, .inl (E.2.1 0, 100, .inl a_flights)), (q 42, .inl (E.2.1 0, 7, .inl a_dFrom)), (q 43, .inl (E.2.1 0, 7, .inl a_dTo)), (q 44, .inl (E.2.1 0, 7, .inl a_dDays)), (q 45, .inl (E.2.1 0, 7, .inl a_dFirst)), (q 46, .inl (E.2.1 0, 7, .inl a_dLast))]) [0, 1, 2, 3, 4, 5, 6, 7, 8] (by decide) rfl
    refine lm_tries7 E h0 q i_taped i_size i_sort i_what i_at i_end i_worth i_faultKind i_faultPlace i_got i_worked i_isPlanned i_bestDone i_bestCost dl cr po se_ ro da co_ a_flights a_dFrom a_dTo a_dDays a_dFirst a_dLast hx hb hml hown hts hkn hst hA (by omega) (by omega) (by omega) (by omega) hbc hro hI_dFrom hI_dTo (fun n_9 n_10 H locs ls hI_order hP hD hS hl => ?_) 9 0 f_6 f_7 _ _ _ (by omega) (by omega) hI_8 hPl hDl hS (lv_sub hl [2, 3, 4, 5, 6, 7, 8, 0] rfl)
    have hP : va_P E.1 vwCl [(h0, .inr (12, mG q i_taped i_size i_sort i_what i_at i_end i_worth i_faultKind i_faultPlace i_got i_worked (nI dl) i_isPlanned i_bestDone i_bestCost)), (q 51, .inl (E.2.1 0, 512, .inl n_9)), (q 52, .inl (E.2.1 0, 512, .inl n_10)), (q 49, .inl (E.2.1 0, 100, .inl a_flights)), (q 42, .inl (E.2.1 0, 7, .inl a_dFrom)), (q 43, .inl (E.2.1 0, 7, .inl a_dTo)), (q 44, .inl (E.2.1 0, 7, .inl a_dDays)), (q 45, .inl (E.2.1 0, 7, .inl a_dFirst)), (q 46, .inl (E.2.1 0, 7, .inl a_dLast))] H := hP
    have hD : va_D A [(h0, .inr (12, mG q i_taped i_size i_sort i_what i_at i_end i_worth i_faultKind i_faultPlace i_got i_worked (nI dl) i_isPlanned i_bestDone i_bestCost)), (q 51, .inl (E.2.1 0, 512, .inl n_9)), (q 52, .inl (E.2.1 0, 512, .inl n_10)), (q 49, .inl (E.2.1 0, 100, .inl a_flights)), (q 42, .inl (E.2.1 0, 7, .inl a_dFrom)), (q 43, .inl (E.2.1 0, 7, .inl a_dTo)), (q 44, .inl (E.2.1 0, 7, .inl a_dDays)), (q 45, .inl (E.2.1 0, 7, .inl a_dFirst)), (q 46, .inl (E.2.1 0, 7, .inl a_dLast))] := hD
    have hP9 := hP.sub (ws' := [(h0, .inr (12, mG q i_taped i_size i_sort i_what i_at i_end i_worth i_faultKind i_faultPlace i_got i_worked (nI dl) i_isPlanned i_bestDone i_bestCost)), (q 51, .inl (E.2.1 0, 512, .inl n_9)), (q 52, .inl (E.2.1 0, 512, .inl n_10)), (q 49, .inl (E.2.1 0, 100, .inl a_flights)), (q 42, .inl (E.2.1 0, 7, .inl a_dFrom)), (q 43, .inl (E.2.1 0, 7, .inl a_dTo)), (q 44, .inl (E.2.1 0, 7, .inl a_dDays)), (q 45, .inl (E.2.1 0, 7, .inl a_dFirst)), (q 46, .inl (E.2.1 0, 7, .inl a_dLast))]) [0, 1, 2, 3, 4, 5, 6, 7, 8] rfl
    have hD9 := hD.sub (ws' := [(h0, .inr (12, mG q i_taped i_size i_sort i_what i_at i_end i_worth i_faultKind i_faultPlace i_got i_worked (nI dl) i_isPlanned i_bestDone i_bestCost)), (q 51, .inl (E.2.1 0, 512, .inl n_9)), (q 52, .inl (E.2.1 0, 512, .inl n_10)), (q 49, .inl (E.2.1 0, 100, .inl a_flights)), (q 42, .inl (E.2.1 0, 7, .inl a_dFrom)), (q 43, .inl (E.2.1 0, 7, .inl a_dTo)), (q 44, .inl (E.2.1 0, 7, .inl a_dDays)), (q 45, .inl (E.2.1 0, 7, .inl a_dFirst)), (q 46, .inl (E.2.1 0, 7, .inl a_dLast))]) [0, 1, 2, 3, 4, 5, 6, 7, 8] (by decide) rfl
    exact W.vret hx hb hr (fun t ht hW => ⟨⟨(n_9, n_10), rfl, trivial, hI_order, by rw [ht]; exact hP9, hD9⟩, hS.F ht⟩) hS.2.2 dX12_tries_246
  · refine lv_iload hx hb dX12_tries_21 (lv_at hl 7 rfl) ?_
    refine lv_aload_n hx hb dX12_tries_23 rfl (lv_at hl 1 rfl) ?_
    refine va_get (D := E.1) (ci := 12) (v := .ref (q 51)) (C := RX12) (T := TX12) (N := 59) hx hb hts inX12 hown hK hP 0 rfl rfl 51 (by decide) fl130 (fun _ h9 => h9) rfl dX12_tries_24 ?_
    refine lv_iload hx hb dX12_tries_27 (lv_at hl 0 rfl) ?_
    refine va_iald hx hb hK hP 1 0 rfl rfl hi_3 dX12_tries_29 ?_
    refine lv_topi (fun x_11 ex_11 => ?_)
    refine lv_icmp_lt (tgt := 57) hx hb dX12_tries_30 (by decide) (fun c_12 => ?_) (fun c_12 => ?_)
    · refine lv_aload_n hx hb dX12_tries_57 rfl (lv_at hl 1 rfl) ?_
      refine va_get (D := E.1) (ci := 12) (v := .ref (q 51)) (C := RX12) (T := TX12) (N := 59) hx hb hts inX12 hown hK hP 0 rfl rfl 51 (by decide) fl130 (fun _ h9 => h9) rfl dX12_tries_58 ?_
      refine lv_iload hx hb dX12_tries_61 (lv_at hl 0 rfl) ?_
      refine lv_iload hx hb dX12_tries_63 (lv_at hl 7 rfl) ?_
      refine va_iast hx hb hK hP hD hS 1 0 rfl rfl hi_3 dX12_tries_65 (fun H locs hP hD hS => ?_)
      have hP : va_P E.1 vwCl [(h0, .inr (12, mG q i_taped i_size i_sort i_what i_at i_end i_worth i_faultKind i_faultPlace i_got i_worked (nI dl) i_isPlanned i_bestDone i_bestCost)), (q 51, .inl (E.2.1 0, 512, .inl (upd a_least (nI ((128 * cr) + se_)).toNatClampNeg co_))), (q 52, .inl (E.2.1 0, 512, .inl a_order)), (q 49, .inl (E.2.1 0, 100, .inl a_flights)), (q 42, .inl (E.2.1 0, 7, .inl a_dFrom)), (q 43, .inl (E.2.1 0, 7, .inl a_dTo)), (q 44, .inl (E.2.1 0, 7, .inl a_dDays)), (q 45, .inl (E.2.1 0, 7, .inl a_dFirst)), (q 46, .inl (E.2.1 0, 7, .inl a_dLast))] H := hP
      have hD : va_D A [(h0, .inr (12, mG q i_taped i_size i_sort i_what i_at i_end i_worth i_faultKind i_faultPlace i_got i_worked (nI dl) i_isPlanned i_bestDone i_bestCost)), (q 51, .inl (E.2.1 0, 512, .inl (upd a_least (nI ((128 * cr) + se_)).toNatClampNeg co_))), (q 52, .inl (E.2.1 0, 512, .inl a_order)), (q 49, .inl (E.2.1 0, 100, .inl a_flights)), (q 42, .inl (E.2.1 0, 7, .inl a_dFrom)), (q 43, .inl (E.2.1 0, 7, .inl a_dTo)), (q 44, .inl (E.2.1 0, 7, .inl a_dDays)), (q 45, .inl (E.2.1 0, 7, .inl a_dFirst)), (q 46, .inl (E.2.1 0, 7, .inl a_dLast))] := hD
      obtain ⟨f_13, ef_13⟩ : ∃ g : Nat → Int32, g = upd a_least (nI ((128 * cr) + se_)).toNatClampNeg co_ := ⟨_, rfl⟩
      rw [← ef_13] at hP hD
      refine lv_aload_n hx hb dX12_tries_66 rfl (lv_at hl 1 rfl) ?_
      refine va_get (D := E.1) (ci := 12) (v := .ref (q 52)) (C := RX12) (T := TX12) (N := 59) hx hb hts inX12 hown hK hP 0 rfl rfl 52 (by decide) fl133 (fun _ h9 => h9) rfl dX12_tries_67 ?_
      refine lv_iload hx hb dX12_tries_70 (lv_at hl 0 rfl) ?_
      refine lv_iload hx hb dX12_tries_72 (lv_at hl 6 rfl) ?_
      refine va_iast hx hb hK hP hD hS 2 0 rfl rfl hi_3 dX12_tries_74 (fun H locs hP hD hS => ?_)
      have hP : va_P E.1 vwCl [(h0, .inr (12, mG q i_taped i_size i_sort i_what i_at i_end i_worth i_faultKind i_faultPlace i_got i_worked (nI dl) i_isPlanned i_bestDone i_bestCost)), (q 51, .inl (E.2.1 0, 512, .inl f_13)), (q 52, .inl (E.2.1 0, 512, .inl (upd a_order (nI ((128 * cr) + se_)).toNatClampNeg (nI ro)))), (q 49, .inl (E.2.1 0, 100, .inl a_flights)), (q 42, .inl (E.2.1 0, 7, .inl a_dFrom)), (q 43, .inl (E.2.1 0, 7, .inl a_dTo)), (q 44, .inl (E.2.1 0, 7, .inl a_dDays)), (q 45, .inl (E.2.1 0, 7, .inl a_dFirst)), (q 46, .inl (E.2.1 0, 7, .inl a_dLast))] H := hP
      have hD : va_D A [(h0, .inr (12, mG q i_taped i_size i_sort i_what i_at i_end i_worth i_faultKind i_faultPlace i_got i_worked (nI dl) i_isPlanned i_bestDone i_bestCost)), (q 51, .inl (E.2.1 0, 512, .inl f_13)), (q 52, .inl (E.2.1 0, 512, .inl (upd a_order (nI ((128 * cr) + se_)).toNatClampNeg (nI ro)))), (q 49, .inl (E.2.1 0, 100, .inl a_flights)), (q 42, .inl (E.2.1 0, 7, .inl a_dFrom)), (q 43, .inl (E.2.1 0, 7, .inl a_dTo)), (q 44, .inl (E.2.1 0, 7, .inl a_dDays)), (q 45, .inl (E.2.1 0, 7, .inl a_dFirst)), (q 46, .inl (E.2.1 0, 7, .inl a_dLast))] := hD
      obtain ⟨f_14, ef_14⟩ : ∃ g : Nat → Int32, g = upd a_order (nI ((128 * cr) + se_)).toNatClampNeg (nI ro) := ⟨_, rfl⟩
      rw [← ef_14] at hP hD
      have hI_15 : ∀ k : Nat, k < 512 → digOK (f_14 k) := by rw [ef_14]; exact all_upd (P := fun z => digOK z) hI_order (dg_OK hro (by decide))
      refine lv_iconst (v := 0) hx hb dX12_tries_75 (by decide) ?_
      refine lv_istore (lv' := [(8, .int 0), (7, .int (nI ((128 * cr) + se_))), (0, .ref h0), (1, .int (nI cr)), (2, .int (nI po)), (3, .int da), (4, .int (nI se_)), (5, .int (nI ro)), (6, .int co_)]) hx hb dX12_tries_76 hl (by decide) rfl (fun ls hl => ?_)
      have hPl := hP.sub (ws' := [(h0, .inr (12, mG q i_taped i_size i_sort i_what i_at i_end i_worth i_faultKind i_faultPlace i_got i_worked (nI dl) i_isPlanned i_bestDone i_bestCost)), (q 51, .inl (E.2.1 0, 512, .inl f_13)), (q 52, .inl (E.2.1 0, 512, .inl f_14)), (q 49, .inl (E.2.1 0, 100, .inl a_flights)), (q 42, .inl (E.2.1 0, 7, .inl a_dFrom)), (q 43, .inl (E.2.1 0, 7, .inl a_dTo)), (q 44, .inl (E.2.1 0, 7, .inl a_dDays)), (q 45, .inl (E.2.1 0, 7, .inl a_dFirst)), (q 46, .inl (E.2.1 0, 7, .inl a_dLast))]) [0, 1, 2, 3, 4, 5, 6, 7, 8] rfl
      have hDl := hD.sub (ws' := [(h0, .inr (12, mG q i_taped i_size i_sort i_what i_at i_end i_worth i_faultKind i_faultPlace i_got i_worked (nI dl) i_isPlanned i_bestDone i_bestCost)), (q 51, .inl (E.2.1 0, 512, .inl f_13)), (q 52, .inl (E.2.1 0, 512, .inl f_14)), (q 49, .inl (E.2.1 0, 100, .inl a_flights)), (q 42, .inl (E.2.1 0, 7, .inl a_dFrom)), (q 43, .inl (E.2.1 0, 7, .inl a_dTo)), (q 44, .inl (E.2.1 0, 7, .inl a_dDays)), (q 45, .inl (E.2.1 0, 7, .inl a_dFirst)), (q 46, .inl (E.2.1 0, 7, .inl a_dLast))]) [0, 1, 2, 3, 4, 5, 6, 7, 8] (by decide) rfl
      refine lm_tries7 E h0 q i_taped i_size i_sort i_what i_at i_end i_worth i_faultKind i_faultPlace i_got i_worked i_isPlanned i_bestDone i_bestCost dl cr po se_ ro da co_ a_flights a_dFrom a_dTo a_dDays a_dFirst a_dLast hx hb hml hown hts hkn hst hA (by omega) (by omega) (by omega) (by omega) hbc hro hI_dFrom hI_dTo (fun n_16 n_17 H locs ls hI_order hP hD hS hl => ?_) 9 0 f_13 f_14 _ _ _ (by omega) (by omega) hI_15 hPl hDl hS (lv_sub hl [2, 3, 4, 5, 6, 7, 8, 0] rfl)
      have hP : va_P E.1 vwCl [(h0, .inr (12, mG q i_taped i_size i_sort i_what i_at i_end i_worth i_faultKind i_faultPlace i_got i_worked (nI dl) i_isPlanned i_bestDone i_bestCost)), (q 51, .inl (E.2.1 0, 512, .inl n_16)), (q 52, .inl (E.2.1 0, 512, .inl n_17)), (q 49, .inl (E.2.1 0, 100, .inl a_flights)), (q 42, .inl (E.2.1 0, 7, .inl a_dFrom)), (q 43, .inl (E.2.1 0, 7, .inl a_dTo)), (q 44, .inl (E.2.1 0, 7, .inl a_dDays)), (q 45, .inl (E.2.1 0, 7, .inl a_dFirst)), (q 46, .inl (E.2.1 0, 7, .inl a_dLast))] H := hP
      have hD : va_D A [(h0, .inr (12, mG q i_taped i_size i_sort i_what i_at i_end i_worth i_faultKind i_faultPlace i_got i_worked (nI dl) i_isPlanned i_bestDone i_bestCost)), (q 51, .inl (E.2.1 0, 512, .inl n_16)), (q 52, .inl (E.2.1 0, 512, .inl n_17)), (q 49, .inl (E.2.1 0, 100, .inl a_flights)), (q 42, .inl (E.2.1 0, 7, .inl a_dFrom)), (q 43, .inl (E.2.1 0, 7, .inl a_dTo)), (q 44, .inl (E.2.1 0, 7, .inl a_dDays)), (q 45, .inl (E.2.1 0, 7, .inl a_dFirst)), (q 46, .inl (E.2.1 0, 7, .inl a_dLast))] := hD
      have hP9 := hP.sub (ws' := [(h0, .inr (12, mG q i_taped i_size i_sort i_what i_at i_end i_worth i_faultKind i_faultPlace i_got i_worked (nI dl) i_isPlanned i_bestDone i_bestCost)), (q 51, .inl (E.2.1 0, 512, .inl n_16)), (q 52, .inl (E.2.1 0, 512, .inl n_17)), (q 49, .inl (E.2.1 0, 100, .inl a_flights)), (q 42, .inl (E.2.1 0, 7, .inl a_dFrom)), (q 43, .inl (E.2.1 0, 7, .inl a_dTo)), (q 44, .inl (E.2.1 0, 7, .inl a_dDays)), (q 45, .inl (E.2.1 0, 7, .inl a_dFirst)), (q 46, .inl (E.2.1 0, 7, .inl a_dLast))]) [0, 1, 2, 3, 4, 5, 6, 7, 8] rfl
      have hD9 := hD.sub (ws' := [(h0, .inr (12, mG q i_taped i_size i_sort i_what i_at i_end i_worth i_faultKind i_faultPlace i_got i_worked (nI dl) i_isPlanned i_bestDone i_bestCost)), (q 51, .inl (E.2.1 0, 512, .inl n_16)), (q 52, .inl (E.2.1 0, 512, .inl n_17)), (q 49, .inl (E.2.1 0, 100, .inl a_flights)), (q 42, .inl (E.2.1 0, 7, .inl a_dFrom)), (q 43, .inl (E.2.1 0, 7, .inl a_dTo)), (q 44, .inl (E.2.1 0, 7, .inl a_dDays)), (q 45, .inl (E.2.1 0, 7, .inl a_dFirst)), (q 46, .inl (E.2.1 0, 7, .inl a_dLast))]) [0, 1, 2, 3, 4, 5, 6, 7, 8] (by decide) rfl
      exact W.vret hx hb hr (fun t ht hW => ⟨⟨(n_16, n_17), rfl, trivial, hI_order, by rw [ht]; exact hP9, hD9⟩, hS.F ht⟩) hS.2.2 dX12_tries_246
    · refine lv_iload hx hb dX12_tries_33 (lv_at hl 7 rfl) ?_
      refine lv_aload_n hx hb dX12_tries_35 rfl (lv_at hl 1 rfl) ?_
      refine va_get (D := E.1) (ci := 12) (v := .ref (q 51)) (C := RX12) (T := TX12) (N := 59) hx hb hts inX12 hown hK hP 0 rfl rfl 51 (by decide) fl130 (fun _ h9 => h9) rfl dX12_tries_36 ?_
      refine lv_iload hx hb dX12_tries_39 (lv_at hl 0 rfl) ?_
      refine va_iald hx hb hK hP 1 0 rfl rfl hi_3 dX12_tries_41 ?_
      refine lv_topi (fun x_18 ex_18 => ?_)
      refine lv_icmp_ne (tgt := 75) hx hb dX12_tries_42 (by decide) (fun c_19 => ?_) (fun c_19 => ?_)
      · refine lv_iconst (v := 0) hx hb dX12_tries_75 (by decide) ?_
        refine lv_istore (lv' := [(8, .int 0), (7, .int (nI ((128 * cr) + se_))), (0, .ref h0), (1, .int (nI cr)), (2, .int (nI po)), (3, .int da), (4, .int (nI se_)), (5, .int (nI ro)), (6, .int co_)]) hx hb dX12_tries_76 hl (by decide) rfl (fun ls hl => ?_)
        have hPl := hP.sub (ws' := [(h0, .inr (12, mG q i_taped i_size i_sort i_what i_at i_end i_worth i_faultKind i_faultPlace i_got i_worked (nI dl) i_isPlanned i_bestDone i_bestCost)), (q 51, .inl (E.2.1 0, 512, .inl a_least)), (q 52, .inl (E.2.1 0, 512, .inl a_order)), (q 49, .inl (E.2.1 0, 100, .inl a_flights)), (q 42, .inl (E.2.1 0, 7, .inl a_dFrom)), (q 43, .inl (E.2.1 0, 7, .inl a_dTo)), (q 44, .inl (E.2.1 0, 7, .inl a_dDays)), (q 45, .inl (E.2.1 0, 7, .inl a_dFirst)), (q 46, .inl (E.2.1 0, 7, .inl a_dLast))]) [0, 1, 2, 3, 4, 5, 6, 7, 8] rfl
        have hDl := hD.sub (ws' := [(h0, .inr (12, mG q i_taped i_size i_sort i_what i_at i_end i_worth i_faultKind i_faultPlace i_got i_worked (nI dl) i_isPlanned i_bestDone i_bestCost)), (q 51, .inl (E.2.1 0, 512, .inl a_least)), (q 52, .inl (E.2.1 0, 512, .inl a_order)), (q 49, .inl (E.2.1 0, 100, .inl a_flights)), (q 42, .inl (E.2.1 0, 7, .inl a_dFrom)), (q 43, .inl (E.2.1 0, 7, .inl a_dTo)), (q 44, .inl (E.2.1 0, 7, .inl a_dDays)), (q 45, .inl (E.2.1 0, 7, .inl a_dFirst)), (q 46, .inl (E.2.1 0, 7, .inl a_dLast))]) [0, 1, 2, 3, 4, 5, 6, 7, 8] (by decide) rfl
        refine lm_tries7 E h0 q i_taped i_size i_sort i_what i_at i_end i_worth i_faultKind i_faultPlace i_got i_worked i_isPlanned i_bestDone i_bestCost dl cr po se_ ro da co_ a_flights a_dFrom a_dTo a_dDays a_dFirst a_dLast hx hb hml hown hts hkn hst hA (by omega) (by omega) (by omega) (by omega) hbc hro hI_dFrom hI_dTo (fun n_20 n_21 H locs ls hI_order hP hD hS hl => ?_) 9 0 a_least a_order _ _ _ (by omega) (by omega) hI_order hPl hDl hS (lv_sub hl [2, 3, 4, 5, 6, 7, 8, 0] rfl)
        have hP : va_P E.1 vwCl [(h0, .inr (12, mG q i_taped i_size i_sort i_what i_at i_end i_worth i_faultKind i_faultPlace i_got i_worked (nI dl) i_isPlanned i_bestDone i_bestCost)), (q 51, .inl (E.2.1 0, 512, .inl n_20)), (q 52, .inl (E.2.1 0, 512, .inl n_21)), (q 49, .inl (E.2.1 0, 100, .inl a_flights)), (q 42, .inl (E.2.1 0, 7, .inl a_dFrom)), (q 43, .inl (E.2.1 0, 7, .inl a_dTo)), (q 44, .inl (E.2.1 0, 7, .inl a_dDays)), (q 45, .inl (E.2.1 0, 7, .inl a_dFirst)), (q 46, .inl (E.2.1 0, 7, .inl a_dLast))] H := hP
        have hD : va_D A [(h0, .inr (12, mG q i_taped i_size i_sort i_what i_at i_end i_worth i_faultKind i_faultPlace i_got i_worked (nI dl) i_isPlanned i_bestDone i_bestCost)), (q 51, .inl (E.2.1 0, 512, .inl n_20)), (q 52, .inl (E.2.1 0, 512, .inl n_21)), (q 49, .inl (E.2.1 0, 100, .inl a_flights)), (q 42, .inl (E.2.1 0, 7, .inl a_dFrom)), (q 43, .inl (E.2.1 0, 7, .inl a_dTo)), (q 44, .inl (E.2.1 0, 7, .inl a_dDays)), (q 45, .inl (E.2.1 0, 7, .inl a_dFirst)), (q 46, .inl (E.2.1 0, 7, .inl a_dLast))] := hD
        have hP9 := hP.sub (ws' := [(h0, .inr (12, mG q i_taped i_size i_sort i_what i_at i_end i_worth i_faultKind i_faultPlace i_got i_worked (nI dl) i_isPlanned i_bestDone i_bestCost)), (q 51, .inl (E.2.1 0, 512, .inl n_20)), (q 52, .inl (E.2.1 0, 512, .inl n_21)), (q 49, .inl (E.2.1 0, 100, .inl a_flights)), (q 42, .inl (E.2.1 0, 7, .inl a_dFrom)), (q 43, .inl (E.2.1 0, 7, .inl a_dTo)), (q 44, .inl (E.2.1 0, 7, .inl a_dDays)), (q 45, .inl (E.2.1 0, 7, .inl a_dFirst)), (q 46, .inl (E.2.1 0, 7, .inl a_dLast))]) [0, 1, 2, 3, 4, 5, 6, 7, 8] rfl
        have hD9 := hD.sub (ws' := [(h0, .inr (12, mG q i_taped i_size i_sort i_what i_at i_end i_worth i_faultKind i_faultPlace i_got i_worked (nI dl) i_isPlanned i_bestDone i_bestCost)), (q 51, .inl (E.2.1 0, 512, .inl n_20)), (q 52, .inl (E.2.1 0, 512, .inl n_21)), (q 49, .inl (E.2.1 0, 100, .inl a_flights)), (q 42, .inl (E.2.1 0, 7, .inl a_dFrom)), (q 43, .inl (E.2.1 0, 7, .inl a_dTo)), (q 44, .inl (E.2.1 0, 7, .inl a_dDays)), (q 45, .inl (E.2.1 0, 7, .inl a_dFirst)), (q 46, .inl (E.2.1 0, 7, .inl a_dLast))]) [0, 1, 2, 3, 4, 5, 6, 7, 8] (by decide) rfl
        exact W.vret hx hb hr (fun t ht hW => ⟨⟨(n_20, n_21), rfl, trivial, hI_order, by rw [ht]; exact hP9, hD9⟩, hS.F ht⟩) hS.2.2 dX12_tries_246
      · refine lv_iload hx hb dX12_tries_45 (lv_at hl 6 rfl) ?_
        refine lv_aload_n hx hb dX12_tries_47 rfl (lv_at hl 1 rfl) ?_
        refine va_get (D := E.1) (ci := 12) (v := .ref (q 52)) (C := RX12) (T := TX12) (N := 59) hx hb hts inX12 hown hK hP 0 rfl rfl 52 (by decide) fl133 (fun _ h9 => h9) rfl dX12_tries_48 ?_
        refine lv_iload hx hb dX12_tries_51 (lv_at hl 0 rfl) ?_
        refine va_iald hx hb hK hP 2 0 rfl rfl hi_3 dX12_tries_53 ?_
        refine lv_topi (fun x_22 ex_22 => ?_)
        have hv_23 : digOK x_22 := by rw [ex_22]; exact hI_order _ (vin_cl hi_3)
        refine lv_icmp_ge (tgt := 75) hx hb dX12_tries_54 (by decide) (fun c_24 => ?_) (fun c_24 => ?_)
        · refine lv_iconst (v := 0) hx hb dX12_tries_75 (by decide) ?_
          refine lv_istore (lv' := [(8, .int 0), (7, .int (nI ((128 * cr) + se_))), (0, .ref h0), (1, .int (nI cr)), (2, .int (nI po)), (3, .int da), (4, .int (nI se_)), (5, .int (nI ro)), (6, .int co_)]) hx hb dX12_tries_76 hl (by decide) rfl (fun ls hl => ?_)
          have hPl := hP.sub (ws' := [(h0, .inr (12, mG q i_taped i_size i_sort i_what i_at i_end i_worth i_faultKind i_faultPlace i_got i_worked (nI dl) i_isPlanned i_bestDone i_bestCost)), (q 51, .inl (E.2.1 0, 512, .inl a_least)), (q 52, .inl (E.2.1 0, 512, .inl a_order)), (q 49, .inl (E.2.1 0, 100, .inl a_flights)), (q 42, .inl (E.2.1 0, 7, .inl a_dFrom)), (q 43, .inl (E.2.1 0, 7, .inl a_dTo)), (q 44, .inl (E.2.1 0, 7, .inl a_dDays)), (q 45, .inl (E.2.1 0, 7, .inl a_dFirst)), (q 46, .inl (E.2.1 0, 7, .inl a_dLast))]) [0, 1, 2, 3, 4, 5, 6, 7, 8] rfl
          have hDl := hD.sub (ws' := [(h0, .inr (12, mG q i_taped i_size i_sort i_what i_at i_end i_worth i_faultKind i_faultPlace i_got i_worked (nI dl) i_isPlanned i_bestDone i_bestCost)), (q 51, .inl (E.2.1 0, 512, .inl a_least)), (q 52, .inl (E.2.1 0, 512, .inl a_order)), (q 49, .inl (E.2.1 0, 100, .inl a_flights)), (q 42, .inl (E.2.1 0, 7, .inl a_dFrom)), (q 43, .inl (E.2.1 0, 7, .inl a_dTo)), (q 44, .inl (E.2.1 0, 7, .inl a_dDays)), (q 45, .inl (E.2.1 0, 7, .inl a_dFirst)), (q 46, .inl (E.2.1 0, 7, .inl a_dLast))]) [0, 1, 2, 3, 4, 5, 6, 7, 8] (by decide) rfl
          refine lm_tries7 E h0 q i_taped i_size i_sort i_what i_at i_end i_worth i_faultKind i_faultPlace i_got i_worked i_isPlanned i_bestDone i_bestCost dl cr po se_ ro da co_ a_flights a_dFrom a_dTo a_dDays a_dFirst a_dLast hx hb hml hown hts hkn hst hA (by omega) (by omega) (by omega) (by omega) hbc hro hI_dFrom hI_dTo (fun n_25 n_26 H locs ls hI_order hP hD hS hl => ?_) 9 0 a_least a_order _ _ _ (by omega) (by omega) hI_order hPl hDl hS (lv_sub hl [2, 3, 4, 5, 6, 7, 8, 0] rfl)
          have hP : va_P E.1 vwCl [(h0, .inr (12, mG q i_taped i_size i_sort i_what i_at i_end i_worth i_faultKind i_faultPlace i_got i_worked (nI dl) i_isPlanned i_bestDone i_bestCost)), (q 51, .inl (E.2.1 0, 512, .inl n_25)), (q 52, .inl (E.2.1 0, 512, .inl n_26)), (q 49, .inl (E.2.1 0, 100, .inl a_flights)), (q 42, .inl (E.2.1 0, 7, .inl a_dFrom)), (q 43, .inl (E.2.1 0, 7, .inl a_dTo)), (q 44, .inl (E.2.1 0, 7, .inl a_dDays)), (q 45, .inl (E.2.1 0, 7, .inl a_dFirst)), (q 46, .inl (E.2.1 0, 7, .inl a_dLast))] H := hP
          have hD : va_D A [(h0, .inr (12, mG q i_taped i_size i_sort i_what i_at i_end i_worth i_faultKind i_faultPlace i_got i_worked (nI dl) i_isPlanned i_bestDone i_bestCost)), (q 51, .inl (E.2.1 0, 512, .inl n_25)), (q 52, .inl (E.2.1 0, 512, .inl n_26)), (q 49, .inl (E.2.1 0, 100, .inl a_flights)), (q 42, .inl (E.2.1 0, 7, .inl a_dFrom)), (q 43, .inl (E.2.1 0, 7, .inl a_dTo)), (q 44, .inl (E.2.1 0, 7, .inl a_dDays)), (q 45, .inl (E.2.1 0, 7, .inl a_dFirst)), (q 46, .inl (E.2.1 0, 7, .inl a_dLast))] := hD
          have hP9 := hP.sub (ws' := [(h0, .inr (12, mG q i_taped i_size i_sort i_what i_at i_end i_worth i_faultKind i_faultPlace i_got i_worked (nI dl) i_isPlanned i_bestDone i_bestCost)), (q 51, .inl (E.2.1 0, 512, .inl n_25)), (q 52, .inl (E.2.1 0, 512, .inl n_26)), (q 49, .inl (E.2.1 0, 100, .inl a_flights)), (q 42, .inl (E.2.1 0, 7, .inl a_dFrom)), (q 43, .inl (E.2.1 0, 7, .inl a_dTo)), (q 44, .inl (E.2.1 0, 7, .inl a_dDays)), (q 45, .inl (E.2.1 0, 7, .inl a_dFirst)), (q 46, .inl (E.2.1 0, 7, .inl a_dLast))]) [0, 1, 2, 3, 4, 5, 6, 7, 8] rfl
          have hD9 := hD.sub (ws' := [(h0, .inr (12, mG q i_taped i_size i_sort i_what i_at i_end i_worth i_faultKind i_faultPlace i_got i_worked (nI dl) i_isPlanned i_bestDone i_bestCost)), (q 51, .inl (E.2.1 0, 512, .inl n_25)), (q 52, .inl (E.2.1 0, 512, .inl n_26)), (q 49, .inl (E.2.1 0, 100, .inl a_flights)), (q 42, .inl (E.2.1 0, 7, .inl a_dFrom)), (q 43, .inl (E.2.1 0, 7, .inl a_dTo)), (q 44, .inl (E.2.1 0, 7, .inl a_dDays)), (q 45, .inl (E.2.1 0, 7, .inl a_dFirst)), (q 46, .inl (E.2.1 0, 7, .inl a_dLast))]) [0, 1, 2, 3, 4, 5, 6, 7, 8] (by decide) rfl
          exact W.vret hx hb hr (fun t ht hW => ⟨⟨(n_25, n_26), rfl, trivial, hI_order, by rw [ht]; exact hP9, hD9⟩, hS.F ht⟩) hS.2.2 dX12_tries_246
        · refine lv_aload_n hx hb dX12_tries_57 rfl (lv_at hl 1 rfl) ?_
          refine va_get (D := E.1) (ci := 12) (v := .ref (q 51)) (C := RX12) (T := TX12) (N := 59) hx hb hts inX12 hown hK hP 0 rfl rfl 51 (by decide) fl130 (fun _ h9 => h9) rfl dX12_tries_58 ?_
          refine lv_iload hx hb dX12_tries_61 (lv_at hl 0 rfl) ?_
          refine lv_iload hx hb dX12_tries_63 (lv_at hl 7 rfl) ?_
          refine va_iast hx hb hK hP hD hS 1 0 rfl rfl hi_3 dX12_tries_65 (fun H locs hP hD hS => ?_)
          have hP : va_P E.1 vwCl [(h0, .inr (12, mG q i_taped i_size i_sort i_what i_at i_end i_worth i_faultKind i_faultPlace i_got i_worked (nI dl) i_isPlanned i_bestDone i_bestCost)), (q 51, .inl (E.2.1 0, 512, .inl (upd a_least (nI ((128 * cr) + se_)).toNatClampNeg co_))), (q 52, .inl (E.2.1 0, 512, .inl a_order)), (q 49, .inl (E.2.1 0, 100, .inl a_flights)), (q 42, .inl (E.2.1 0, 7, .inl a_dFrom)), (q 43, .inl (E.2.1 0, 7, .inl a_dTo)), (q 44, .inl (E.2.1 0, 7, .inl a_dDays)), (q 45, .inl (E.2.1 0, 7, .inl a_dFirst)), (q 46, .inl (E.2.1 0, 7, .inl a_dLast))] H := hP
          have hD : va_D A [(h0, .inr (12, mG q i_taped i_size i_sort i_what i_at i_end i_worth i_faultKind i_faultPlace i_got i_worked (nI dl) i_isPlanned i_bestDone i_bestCost)), (q 51, .inl (E.2.1 0, 512, .inl (upd a_least (nI ((128 * cr) + se_)).toNatClampNeg co_))), (q 52, .inl (E.2.1 0, 512, .inl a_order)), (q 49, .inl (E.2.1 0, 100, .inl a_flights)), (q 42, .inl (E.2.1 0, 7, .inl a_dFrom)), (q 43, .inl (E.2.1 0, 7, .inl a_dTo)), (q 44, .inl (E.2.1 0, 7, .inl a_dDays)), (q 45, .inl (E.2.1 0, 7, .inl a_dFirst)), (q 46, .inl (E.2.1 0, 7, .inl a_dLast))] := hD
          obtain ⟨f_27, ef_27⟩ : ∃ g : Nat → Int32, g = upd a_least (nI ((128 * cr) + se_)).toNatClampNeg co_ := ⟨_, rfl⟩
          rw [← ef_27] at hP hD
          refine lv_aload_n hx hb dX12_tries_66 rfl (lv_at hl 1 rfl) ?_
          refine va_get (D := E.1) (ci := 12) (v := .ref (q 52)) (C := RX12) (T := TX12) (N := 59) hx hb hts inX12 hown hK hP 0 rfl rfl 52 (by decide) fl133 (fun _ h9 => h9) rfl dX12_tries_67 ?_
          refine lv_iload hx hb dX12_tries_70 (lv_at hl 0 rfl) ?_
          refine lv_iload hx hb dX12_tries_72 (lv_at hl 6 rfl) ?_
          refine va_iast hx hb hK hP hD hS 2 0 rfl rfl hi_3 dX12_tries_74 (fun H locs hP hD hS => ?_)
          have hP : va_P E.1 vwCl [(h0, .inr (12, mG q i_taped i_size i_sort i_what i_at i_end i_worth i_faultKind i_faultPlace i_got i_worked (nI dl) i_isPlanned i_bestDone i_bestCost)), (q 51, .inl (E.2.1 0, 512, .inl f_27)), (q 52, .inl (E.2.1 0, 512, .inl (upd a_order (nI ((128 * cr) + se_)).toNatClampNeg (nI ro)))), (q 49, .inl (E.2.1 0, 100, .inl a_flights)), (q 42, .inl (E.2.1 0, 7, .inl a_dFrom)), (q 43, .inl (E.2.1 0, 7, .inl a_dTo)), (q 44, .inl (E.2.1 0, 7, .inl a_dDays)), (q 45, .inl (E.2.1 0, 7, .inl a_dFirst)), (q 46, .inl (E.2.1 0, 7, .inl a_dLast))] H := hP
          have hD : va_D A [(h0, .inr (12, mG q i_taped i_size i_sort i_what i_at i_end i_worth i_faultKind i_faultPlace i_got i_worked (nI dl) i_isPlanned i_bestDone i_bestCost)), (q 51, .inl (E.2.1 0, 512, .inl f_27)), (q 52, .inl (E.2.1 0, 512, .inl (upd a_order (nI ((128 * cr) + se_)).toNatClampNeg (nI ro)))), (q 49, .inl (E.2.1 0, 100, .inl a_flights)), (q 42, .inl (E.2.1 0, 7, .inl a_dFrom)), (q 43, .inl (E.2.1 0, 7, .inl a_dTo)), (q 44, .inl (E.2.1 0, 7, .inl a_dDays)), (q 45, .inl (E.2.1 0, 7, .inl a_dFirst)), (q 46, .inl (E.2.1 0, 7, .inl a_dLast))] := hD
          obtain ⟨f_28, ef_28⟩ : ∃ g : Nat → Int32, g = upd a_order (nI ((128 * cr) + se_)).toNatClampNeg (nI ro) := ⟨_, rfl⟩
          rw [← ef_28] at hP hD
          have hI_29 : ∀ k : Nat, k < 512 → digOK (f_28 k) := by rw [ef_28]; exact all_upd (P := fun z => digOK z) hI_order (dg_OK hro (by decide))
          refine lv_iconst (v := 0) hx hb dX12_tries_75 (by decide) ?_
          refine lv_istore (lv' := [(8, .int 0), (7, .int (nI ((128 * cr) + se_))), (0, .ref h0), (1, .int (nI cr)), (2, .int (nI po)), (3, .int da), (4, .int (nI se_)), (5, .int (nI ro)), (6, .int co_)]) hx hb dX12_tries_76 hl (by decide) rfl (fun ls hl => ?_)
          have hPl := hP.sub (ws' := [(h0, .inr (12, mG q i_taped i_size i_sort i_what i_at i_end i_worth i_faultKind i_faultPlace i_got i_worked (nI dl) i_isPlanned i_bestDone i_bestCost)), (q 51, .inl (E.2.1 0, 512, .inl f_27)), (q 52, .inl (E.2.1 0, 512, .inl f_28)), (q 49, .inl (E.2.1 0, 100, .inl a_flights)), (q 42, .inl (E.2.1 0, 7, .inl a_dFrom)), (q 43, .inl (E.2.1 0, 7, .inl a_dTo)), (q 44, .inl (E.2.1 0, 7, .inl a_dDays)), (q 45, .inl (E.2.1 0, 7, .inl a_dFirst)), (q 46, .inl (E.2.1 0, 7, .inl a_dLast))]) [0, 1, 2, 3, 4, 5, 6, 7, 8] rfl
          have hDl := hD.sub (ws' := [(h0, .inr (12, mG q i_taped i_size i_sort i_what i_at i_end i_worth i_faultKind i_faultPlace i_got i_worked (nI dl) i_isPlanned i_bestDone i_bestCost)), (q 51, .inl (E.2.1 0, 512, .inl f_27)), (q 52, .inl (E.2.1 0, 512, .inl f_28)), (q 49, .inl (E.2.1 0, 100, .inl a_flights)), (q 42, .inl (E.2.1 0, 7, .inl a_dFrom)), (q 43, .inl (E.2.1 0, 7, .inl a_dTo)), (q 44, .inl (E.2.1 0, 7, .inl a_dDays)), (q 45, .inl (E.2.1 0, 7, .inl a_dFirst)), (q 46, .inl (E.2.1 0, 7, .inl a_dLast))]) [0, 1, 2, 3, 4, 5, 6, 7, 8] (by decide) rfl
          refine lm_tries7 E h0 q i_taped i_size i_sort i_what i_at i_end i_worth i_faultKind i_faultPlace i_got i_worked i_isPlanned i_bestDone i_bestCost dl cr po se_ ro da co_ a_flights a_dFrom a_dTo a_dDays a_dFirst a_dLast hx hb hml hown hts hkn hst hA (by omega) (by omega) (by omega) (by omega) hbc hro hI_dFrom hI_dTo (fun n_30 n_31 H locs ls hI_order hP hD hS hl => ?_) 9 0 f_27 f_28 _ _ _ (by omega) (by omega) hI_29 hPl hDl hS (lv_sub hl [2, 3, 4, 5, 6, 7, 8, 0] rfl)
          have hP : va_P E.1 vwCl [(h0, .inr (12, mG q i_taped i_size i_sort i_what i_at i_end i_worth i_faultKind i_faultPlace i_got i_worked (nI dl) i_isPlanned i_bestDone i_bestCost)), (q 51, .inl (E.2.1 0, 512, .inl n_30)), (q 52, .inl (E.2.1 0, 512, .inl n_31)), (q 49, .inl (E.2.1 0, 100, .inl a_flights)), (q 42, .inl (E.2.1 0, 7, .inl a_dFrom)), (q 43, .inl (E.2.1 0, 7, .inl a_dTo)), (q 44, .inl (E.2.1 0, 7, .inl a_dDays)), (q 45, .inl (E.2.1 0, 7, .inl a_dFirst)), (q 46, .inl (E.2.1 0, 7, .inl a_dLast))] H := hP
          have hD : va_D A [(h0, .inr (12, mG q i_taped i_size i_sort i_what i_at i_end i_worth i_faultKind i_faultPlace i_got i_worked (nI dl) i_isPlanned i_bestDone i_bestCost)), (q 51, .inl (E.2.1 0, 512, .inl n_30)), (q 52, .inl (E.2.1 0, 512, .inl n_31)), (q 49, .inl (E.2.1 0, 100, .inl a_flights)), (q 42, .inl (E.2.1 0, 7, .inl a_dFrom)), (q 43, .inl (E.2.1 0, 7, .inl a_dTo)), (q 44, .inl (E.2.1 0, 7, .inl a_dDays)), (q 45, .inl (E.2.1 0, 7, .inl a_dFirst)), (q 46, .inl (E.2.1 0, 7, .inl a_dLast))] := hD
          have hP9 := hP.sub (ws' := [(h0, .inr (12, mG q i_taped i_size i_sort i_what i_at i_end i_worth i_faultKind i_faultPlace i_got i_worked (nI dl) i_isPlanned i_bestDone i_bestCost)), (q 51, .inl (E.2.1 0, 512, .inl n_30)), (q 52, .inl (E.2.1 0, 512, .inl n_31)), (q 49, .inl (E.2.1 0, 100, .inl a_flights)), (q 42, .inl (E.2.1 0, 7, .inl a_dFrom)), (q 43, .inl (E.2.1 0, 7, .inl a_dTo)), (q 44, .inl (E.2.1 0, 7, .inl a_dDays)), (q 45, .inl (E.2.1 0, 7, .inl a_dFirst)), (q 46, .inl (E.2.1 0, 7, .inl a_dLast))]) [0, 1, 2, 3, 4, 5, 6, 7, 8] rfl
          have hD9 := hD.sub (ws' := [(h0, .inr (12, mG q i_taped i_size i_sort i_what i_at i_end i_worth i_faultKind i_faultPlace i_got i_worked (nI dl) i_isPlanned i_bestDone i_bestCost)), (q 51, .inl (E.2.1 0, 512, .inl n_30)), (q 52, .inl (E.2.1 0, 512, .inl n_31)), (q 49, .inl (E.2.1 0, 100, .inl a_flights)), (q 42, .inl (E.2.1 0, 7, .inl a_dFrom)), (q 43, .inl (E.2.1 0, 7, .inl a_dTo)), (q 44, .inl (E.2.1 0, 7, .inl a_dDays)), (q 45, .inl (E.2.1 0, 7, .inl a_dFirst)), (q 46, .inl (E.2.1 0, 7, .inl a_dLast))]) [0, 1, 2, 3, 4, 5, 6, 7, 8] (by decide) rfl
          exact W.vret hx hb hr (fun t ht hW => ⟨⟨(n_30, n_31), rfl, trivial, hI_order, by rw [ht]; exact hP9, hD9⟩, hS.F ht⟩) hS.2.2 dX12_tries_246
set_option maxHeartbeats 4000000 in
set_option maxRecDepth 100000 in
theorem lm_tries6 {p : Program} {l : Launch} {e : Env} {s : State} {m : MethodId} {args : Array Value} {below : List Frame} {meth : Method} {c : Code} {Q : State → Prop} {A : Nat → Prop} (E : vE) (h0 : Nat) (q : Nat → Nat) (i_taped : Int32) (i_size : Int32) (i_sort : Int32) (i_what : Int32) (i_at : Int32) (i_end : Int32) (i_worth : Int32) (i_faultKind : Int32) (i_faultPlace : Int32) (i_got : Int32) (i_worked : Int32) (i_isPlanned : Int32) (i_bestDone : Int32) (i_bestCost : Int32) (dl : Nat) (cr : Nat) (po : Nat) (se_ : Nat) (ro : Nat) (da : Int32) (co_ : Int32) (a_flights : Nat → Int32) (a_dFrom : Nat → Int32) (a_dTo : Nat → Int32) (a_dDays : Nat → Int32) (a_dFirst : Nat → Int32) (a_dLast : Nat → Int32) (hx : p.tables.exec = Jvm.exec) (hb : c.code = cX12_tries) (hml : c.maxLocals = 11) (hown : s.vm.findClass RX12 = some m.cls) (hts : ∀ w ∈ wsX12_tries, w.before args s = true) (hkn : kn E s) (hst : st E A s s.heap) (hA : ∀ q : Nat, s.heap.size ≤ q → A q) (hcr : cr < 4) (hpo : po ≤ 9) (hse : se_ < 128) (hdl : dl ≤ 7) (hbc : bc7 se_ = 6) (hro : dg ro 6) (hI_dFrom : ∀ k : Nat, k < 7 → inR (a_dFrom k) 0 9 = true) (hI_dTo : ∀ k : Nat, k < 7 → inR (a_dTo k) 0 9 = true) (kk : ∀ (a_least : Nat → Int32) (a_order : Nat → Int32) (H : Heap) (locs : List Loc) (ls : Array Slot), (∀ k : Nat, k < 512 → digOK (a_order k)) → va_P E.1 vwCl [(h0, .inr (12, mG q i_taped i_size i_sort i_what i_at i_end i_worth i_faultKind i_faultPlace i_got i_worked (nI dl) i_isPlanned i_bestDone i_bestCost)), (q 51, .inl (E.2.1 0, 512, .inl a_least)), (q 52, .inl (E.2.1 0, 512, .inl a_order)), (q 49, .inl (E.2.1 0, 100, .inl a_flights)), (q 42, .inl (E.2.1 0, 7, .inl a_dFrom)), (q 43, .inl (E.2.1 0, 7, .inl a_dTo)), (q 44, .inl (E.2.1 0, 7, .inl a_dDays)), (q 45, .inl (E.2.1 0, 7, .inl a_dFirst)), (q 46, .inl (E.2.1 0, 7, .inl a_dLast))] H → va_D A [(h0, .inr (12, mG q i_taped i_size i_sort i_what i_at i_end i_worth i_faultKind i_faultPlace i_got i_worked (nI dl) i_isPlanned i_bestDone i_bestCost)), (q 51, .inl (E.2.1 0, 512, .inl a_least)), (q 52, .inl (E.2.1 0, 512, .inl a_order)), (q 49, .inl (E.2.1 0, 100, .inl a_flights)), (q 42, .inl (E.2.1 0, 7, .inl a_dFrom)), (q 43, .inl (E.2.1 0, 7, .inl a_dTo)), (q 44, .inl (E.2.1 0, 7, .inl a_dDays)), (q 45, .inl (E.2.1 0, 7, .inl a_dFirst)), (q 46, .inl (E.2.1 0, 7, .inl a_dLast))] → va_S A s.heap H locs → lv_has ls 11 [(0, .ref h0)] → W p l e ({ frames := 1, cells := 0, slots := 0, locals := 30 }) s m args below meth c H locs 0 0 Q (F0 m 246 ls [])) : ∀ (n0 : Nat) (k : Nat) (a_least : Nat → Int32) (a_order : Nat → Int32) (H : Heap) (locs : List Loc) (ls : Array Slot), 8 - k < n0 → (k ≤ 7) → (∀ k : Nat, k < 512 → digOK (a_order k)) → va_P E.1 vwCl [(h0, .inr (12, mG q i_taped i_size i_sort i_what i_at i_end i_worth i_faultKind i_faultPlace i_got i_worked (nI dl) i_isPlanned i_bestDone i_bestCost)), (q 51, .inl (E.2.1 0, 512, .inl a_least)), (q 52, .inl (E.2.1 0, 512, .inl a_order)), (q 49, .inl (E.2.1 0, 100, .inl a_flights)), (q 42, .inl (E.2.1 0, 7, .inl a_dFrom)), (q 43, .inl (E.2.1 0, 7, .inl a_dTo)), (q 44, .inl (E.2.1 0, 7, .inl a_dDays)), (q 45, .inl (E.2.1 0, 7, .inl a_dFirst)), (q 46, .inl (E.2.1 0, 7, .inl a_dLast))] H → va_D A [(h0, .inr (12, mG q i_taped i_size i_sort i_what i_at i_end i_worth i_faultKind i_faultPlace i_got i_worked (nI dl) i_isPlanned i_bestDone i_bestCost)), (q 51, .inl (E.2.1 0, 512, .inl a_least)), (q 52, .inl (E.2.1 0, 512, .inl a_order)), (q 49, .inl (E.2.1 0, 100, .inl a_flights)), (q 42, .inl (E.2.1 0, 7, .inl a_dFrom)), (q 43, .inl (E.2.1 0, 7, .inl a_dTo)), (q 44, .inl (E.2.1 0, 7, .inl a_dDays)), (q 45, .inl (E.2.1 0, 7, .inl a_dFirst)), (q 46, .inl (E.2.1 0, 7, .inl a_dLast))] → va_S A s.heap H locs → lv_has ls 11 [(0, .ref h0), (1, .int (nI cr)), (2, .int (nI po)), (3, .int da), (4, .int (nI se_)), (5, .int (nI ro)), (6, .int co_), (8, .int (nI k))] → W p l e ({ frames := 1, cells := 0, slots := 0, locals := 30 }) s m args below meth c H locs 0 0 Q (F0 m 78 ls []) := by
  have hK := hkn.1
  have hAO := hkn.2.2.1
  have fl106 := hts (.fieldLink RX12 106 "BoatsHomeModel" "dFrom" "[I") (by first | exact List.mem_of_getElem? (i := 5) rfl | decide +kernel)
  have fl109 := hts (.fieldLink RX12 109 "BoatsHomeModel" "dTo" "[I") (by first | exact List.mem_of_getElem? (i := 8) rfl | decide +kernel)
  have fl112 := hts (.fieldLink RX12 112 "BoatsHomeModel" "dDays" "[I") (by first | exact List.mem_of_getElem? (i := 9) rfl | decide +kernel)
  have fl115 := hts (.fieldLink RX12 115 "BoatsHomeModel" "dFirst" "[I") (by first | exact List.mem_of_getElem? (i := 6) rfl | decide +kernel)
  have fl118 := hts (.fieldLink RX12 118 "BoatsHomeModel" "dLast" "[I") (by first | exact List.mem_of_getElem? (i := 7) rfl | decide +kernel)
  have fl127 := hts (.fieldLink RX12 127 "BoatsHomeModel" "flights" "[I") (by first | exact List.mem_of_getElem? (i := 4) rfl | decide +kernel)
  have fl130 := hts (.fieldLink RX12 130 "BoatsHomeModel" "least" "[I") (by first | exact List.mem_of_getElem? (i := 1) rfl | decide +kernel)
  have fl133 := hts (.fieldLink RX12 133 "BoatsHomeModel" "order" "[I") (by first | exact List.mem_of_getElem? (i := 2) rfl | decide +kernel)
  have fl289 := hts (.fieldLink RX12 289 "BoatsHomeModel" "deliveries" "I") (by first | exact List.mem_of_getElem? (i := 3) rfl | decide +kernel)
  have inX12 : ∀ w ∈ u_ws RX12 TX12 59, w ∈ wsX12_tries := by first | exact fun w h9 => (List.mem_cons_of_mem _ (List.mem_append_right _ h9)) | decide +kernel
  intro n0
  induction n0 with
  | zero =>
    intro k a_least a_order H locs ls hn0
    exact absurd hn0 (Nat.not_lt_zero _)
  | succ n0 ih =>
    intro k a_least a_order H locs ls hn0 hk hI_order hP hD hS hl
    refine lv_iload hx hb dX12_tries_78 (lv_at hl 7 rfl) ?_
    refine lv_aload_n hx hb dX12_tries_80 rfl (lv_at hl 0 rfl) ?_
    refine va_get (D := E.1) (ci := 12) (v := .int (nI dl)) (C := RX12) (T := TX12) (N := 59) hx hb hts inX12 hown hK hP 0 rfl rfl 41 (by decide) fl289 (fun _ h9 => h9) rfl dX12_tries_81 ?_
    refine lv_icmp_ge (tgt := 246) hx hb dX12_tries_84 (by decide) (fun c_1 => ?_) (fun c_1 => ?_)
    · exact kk a_least a_order _ _ _ hI_order (hP.sub [0, 1, 2, 3, 4, 5, 6, 7, 8] rfl) (hD.sub [0, 1, 2, 3, 4, 5, 6, 7, 8] (by decide) rfl) hS (lv_sub hl [0] rfl)
    · have hlt : k < 7 := by have := lt_of_nle (by omega) c_1; omega
      refine lv_iload hx hb dX12_tries_87 (lv_at hl 4 rfl) ?_
      refine lv_iload hx hb dX12_tries_89 (lv_at hl 7 rfl) ?_
      refine lv_ishr hx hb dX12_tries_91 ?_
      refine lv_topi (fun x_2 ex_2 => ?_)
      refine lv_iconst (v := 1) hx hb dX12_tries_92 (by decide) ?_
      refine lv_iand hx hb dX12_tries_93 ?_
      refine lv_topi (fun x_3 ex_3 => ?_)
      refine lv_iconst (v := 1) hx hb dX12_tries_94 (by decide) ?_
      refine lv_icmp_eq (tgt := 240) hx hb dX12_tries_95 (by decide) (fun c_4 => ?_) (fun c_4 => ?_)
      · refine lv_iinc (v := (nI (k + 1))) (lv' := [(8, .int (nI (k + 1))), (0, .ref h0), (1, .int (nI cr)), (2, .int (nI po)), (3, .int da), (4, .int (nI se_)), (5, .int (nI ro)), (6, .int co_)]) hx hb dX12_tries_240 hl (k := 7) rfl (show nI k + 1 = nI (k + 1) from nI_1 k) (by decide) rfl (fun ls hl => ?_)
        refine lv_goto (tgt := 78) hx hb dX12_tries_243 (by decide) ?_
        exact ih (k + 1) a_least a_order _ _ _ (by omega) (by omega) hI_order (hP.sub [0, 1, 2, 3, 4, 5, 6, 7, 8] rfl) (hD.sub [0, 1, 2, 3, 4, 5, 6, 7, 8] (by decide) rfl) hS (lv_sub hl [1, 2, 3, 4, 5, 6, 7, 0] rfl)
      · refine lv_aload_n hx hb dX12_tries_98 rfl (lv_at hl 0 rfl) ?_
        refine va_get (D := E.1) (ci := 12) (v := .ref (q 49)) (C := RX12) (T := TX12) (N := 59) hx hb hts inX12 hown hK hP 0 rfl rfl 49 (by decide) fl127 (fun _ h9 => h9) rfl dX12_tries_99 ?_
        refine lv_bipush (v := 10) hx hb dX12_tries_102 (by decide) ?_
        refine lv_iload_n hx hb dX12_tries_104 rfl (lv_at hl 2 rfl) ?_
        refine lv_imul hx hb dX12_tries_105 ?_
        refine lv_topi (fun x_5 ex_5 => ?_)
        obtain rfl : x_5 = nI (10 * po) := ex_5.trans (pk_mul 10 po)
        refine lv_aload_n hx hb dX12_tries_106 rfl (lv_at hl 0 rfl) ?_
        refine va_get (D := E.1) (ci := 12) (v := .ref (q 42)) (C := RX12) (T := TX12) (N := 59) hx hb hts inX12 hown hK hP 0 rfl rfl 42 (by decide) fl106 (fun _ h9 => h9) rfl dX12_tries_107 ?_
        refine lv_iload hx hb dX12_tries_110 (lv_at hl 7 rfl) ?_
        have hi_6 : vp_in (nI k) 7 := vp_in_nI (by omega) (by decide)
        refine va_iald hx hb hK hP 4 0 rfl rfl hi_6 dX12_tries_112 ?_
        refine lv_topi (fun x_7 ex_7 => ?_)
        have hv_8 : inR x_7 0 9 = true := by rw [ex_7]; exact hI_dFrom _ (vin_cl hi_6)
        obtain ⟨w_9, hw_10, ew_11⟩ := inR_nI (n := 9) (by decide) hv_8
        subst ew_11
        refine lv_iadd hx hb dX12_tries_113 ?_
        refine lv_topi (fun x_12 ex_12 => ?_)
        obtain rfl : x_12 = nI ((10 * po) + w_9) := ex_12.trans (nI_add (10 * po) w_9)
        have hi_13 : vp_in (nI ((10 * po) + w_9)) 100 := vp_in_nI (by omega) (by decide)
        refine va_iald hx hb hK hP 3 0 rfl rfl hi_13 dX12_tries_114 ?_
        refine lv_topi (fun x_14 ex_14 => ?_)
        refine lv_iconst (v := (-1)) hx hb dX12_tries_115 (by decide) ?_
        refine lv_icmp_ne (tgt := 122) hx hb dX12_tries_116 (by decide) (fun c_15 => ?_) (fun c_15 => ?_)
        · refine lv_iload_n hx hb dX12_tries_122 rfl (lv_at hl 3 rfl) ?_
          refine lv_iload_n hx hb dX12_tries_123 rfl (lv_at hl 2 rfl) ?_
          refine lv_aload_n hx hb dX12_tries_124 rfl (lv_at hl 0 rfl) ?_
          refine va_get (D := E.1) (ci := 12) (v := .ref (q 42)) (C := RX12) (T := TX12) (N := 59) hx hb hts inX12 hown hK hP 0 rfl rfl 42 (by decide) fl106 (fun _ h9 => h9) rfl dX12_tries_125 ?_
          refine lv_iload hx hb dX12_tries_128 (lv_at hl 7 rfl) ?_
          refine va_iald hx hb hK hP 4 0 rfl rfl hi_6 dX12_tries_130 ?_
          refine lv_topi (fun x_16 ex_16 => ?_)
          obtain rfl : x_16 = nI w_9 := ex_16.trans ex_7.symm
          refine lv_icmp_ne (tgt := 138) hx hb dX12_tries_131 (by decide) (fun c_17 => ?_) (fun c_17 => ?_)
          · refine lv_iconst (v := 1) hx hb dX12_tries_138 (by decide) ?_
            refine lv_iadd hx hb dX12_tries_139 ?_
            refine lv_topi (fun x_18 ex_18 => ?_)
            refine lv_istore (lv' := [(9, .int x_18), (0, .ref h0), (1, .int (nI cr)), (2, .int (nI po)), (3, .int da), (4, .int (nI se_)), (5, .int (nI ro)), (6, .int co_), (8, .int (nI k))]) hx hb dX12_tries_140 hl (by decide) rfl (fun ls hl => ?_)
            refine lv_iload hx hb dX12_tries_142 (lv_at hl 0 rfl) ?_
            refine lv_aload_n hx hb dX12_tries_144 rfl (lv_at hl 1 rfl) ?_
            refine va_get (D := E.1) (ci := 12) (v := .ref (q 45)) (C := RX12) (T := TX12) (N := 59) hx hb hts inX12 hown hK hP 0 rfl rfl 45 (by decide) fl115 (fun _ h9 => h9) rfl dX12_tries_145 ?_
            refine lv_iload hx hb dX12_tries_148 (lv_at hl 8 rfl) ?_
            refine va_iald hx hb hK hP 7 0 rfl rfl hi_6 dX12_tries_150 ?_
            refine lv_topi (fun x_19 ex_19 => ?_)
            refine lv_icmp_le (tgt := 159) hx hb dX12_tries_151 (by decide) (fun c_20 => ?_) (fun c_20 => ?_)
            · refine lv_aload_n hx hb dX12_tries_159 rfl (lv_at hl 1 rfl) ?_
              refine va_get (D := E.1) (ci := 12) (v := .ref (q 45)) (C := RX12) (T := TX12) (N := 59) hx hb hts inX12 hown hK hP 0 rfl rfl 45 (by decide) fl115 (fun _ h9 => h9) rfl dX12_tries_160 ?_
              refine lv_iload hx hb dX12_tries_163 (lv_at hl 8 rfl) ?_
              refine va_iald hx hb hK hP 7 0 rfl rfl hi_6 dX12_tries_165 ?_
              refine lv_topi (fun x_21 ex_21 => ?_)
              refine lv_istore (lv' := [(10, .int x_21), (9, .int x_18), (0, .ref h0), (1, .int (nI cr)), (2, .int (nI po)), (3, .int da), (4, .int (nI se_)), (5, .int (nI ro)), (6, .int co_), (8, .int (nI k))]) hx hb dX12_tries_166 hl (by decide) rfl (fun ls hl => ?_)
              refine lv_iload hx hb dX12_tries_168 (lv_at hl 0 rfl) ?_
              refine lv_aload_n hx hb dX12_tries_170 rfl (lv_at hl 2 rfl) ?_
              refine va_get (D := E.1) (ci := 12) (v := .ref (q 46)) (C := RX12) (T := TX12) (N := 59) hx hb hts inX12 hown hK hP 0 rfl rfl 46 (by decide) fl118 (fun _ h9 => h9) rfl dX12_tries_171 ?_
              refine lv_iload hx hb dX12_tries_174 (lv_at hl 9 rfl) ?_
              refine va_iald hx hb hK hP 8 0 rfl rfl hi_6 dX12_tries_176 ?_
              refine lv_topi (fun x_22 ex_22 => ?_)
              refine lv_icmp_le (tgt := 183) hx hb dX12_tries_177 (by decide) (fun c_23 => ?_) (fun c_23 => ?_)
              · refine lv_aload_n hx hb dX12_tries_183 rfl (lv_at hl 2 rfl) ?_
                refine lv_iload_n hx hb dX12_tries_184 rfl (lv_at hl 3 rfl) ?_
                refine lv_aload_n hx hb dX12_tries_185 rfl (lv_at hl 2 rfl) ?_
                refine va_get (D := E.1) (ci := 12) (v := .ref (q 43)) (C := RX12) (T := TX12) (N := 59) hx hb hts inX12 hown hK hP 0 rfl rfl 43 (by decide) fl109 (fun _ h9 => h9) rfl dX12_tries_186 ?_
                refine lv_iload hx hb dX12_tries_189 (lv_at hl 9 rfl) ?_
                refine va_iald hx hb hK hP 5 0 rfl rfl hi_6 dX12_tries_191 ?_
                refine lv_topi (fun x_24 ex_24 => ?_)
                have hv_25 : inR x_24 0 9 = true := by rw [ex_24]; exact hI_dTo _ (vin_cl hi_6)
                obtain ⟨w_26, hw_27, ew_28⟩ := inR_nI (n := 9) (by decide) hv_25
                subst ew_28
                refine lv_iload hx hb dX12_tries_192 (lv_at hl 0 rfl) ?_
                refine lv_aload_n hx hb dX12_tries_194 rfl (lv_at hl 2 rfl) ?_
                refine va_get (D := E.1) (ci := 12) (v := .ref (q 44)) (C := RX12) (T := TX12) (N := 59) hx hb hts inX12 hown hK hP 0 rfl rfl 44 (by decide) fl112 (fun _ h9 => h9) rfl dX12_tries_195 ?_
                refine lv_iload hx hb dX12_tries_198 (lv_at hl 9 rfl) ?_
                refine va_iald hx hb hK hP 6 0 rfl rfl hi_6 dX12_tries_200 ?_
                refine lv_topi (fun x_29 ex_29 => ?_)
                refine lv_iadd hx hb dX12_tries_201 ?_
                refine lv_topi (fun x_30 ex_30 => ?_)
                refine lv_iload hx hb dX12_tries_202 (lv_at hl 6 rfl) ?_
                refine lv_iconst (v := 1) hx hb dX12_tries_204 (by decide) ?_
                refine lv_iload hx hb dX12_tries_205 (lv_at hl 9 rfl) ?_
                refine lv_ishl hx hb dX12_tries_207 ?_
                refine lv_topi (fun x_31 ex_31 => ?_)
                refine lv_ior hx hb dX12_tries_208 ?_
                refine lv_topi (fun x_32 ex_32 => ?_)
                obtain ⟨w_33, hw_34, hw_34b, hw_34e⟩ : ∃ w, w < 128 ∧ bc7 w = 6 + 1 ∧ x_32 = nI w := by rw [ex_32, ex_31]; exact tr_bit hse hlt hbc (by rw [ex_3, ex_2] at c_4; exact c_4)
                subst hw_34e
                refine lv_bipush (v := 8) hx hb dX12_tries_209 (by decide) ?_
                refine lv_iload hx hb dX12_tries_211 (lv_at hl 7 rfl) ?_
                refine lv_imul hx hb dX12_tries_213 ?_
                refine lv_topi (fun x_35 ex_35 => ?_)
                obtain rfl : x_35 = nI (8 * ro) := ex_35.trans (pk_mul 8 ro)
                refine lv_iload hx hb dX12_tries_214 (lv_at hl 9 rfl) ?_
                refine lv_iadd hx hb dX12_tries_216 ?_
                refine lv_topi (fun x_36 ex_36 => ?_)
                obtain rfl : x_36 = nI ((8 * ro) + k) := ex_36.trans (nI_add (8 * ro) k)
                refine lv_iload hx hb dX12_tries_217 (lv_at hl 8 rfl) ?_
                refine lv_aload_n hx hb dX12_tries_219 rfl (lv_at hl 2 rfl) ?_
                refine va_get (D := E.1) (ci := 12) (v := .ref (q 49)) (C := RX12) (T := TX12) (N := 59) hx hb hts inX12 hown hK hP 0 rfl rfl 49 (by decide) fl127 (fun _ h9 => h9) rfl dX12_tries_220 ?_
                refine lv_bipush (v := 10) hx hb dX12_tries_223 (by decide) ?_
                refine lv_iload_n hx hb dX12_tries_225 rfl (lv_at hl 4 rfl) ?_
                refine lv_imul hx hb dX12_tries_226 ?_
                refine lv_topi (fun x_37 ex_37 => ?_)
                obtain rfl : x_37 = nI (10 * po) := ex_37.trans (pk_mul 10 po)
                refine lv_aload_n hx hb dX12_tries_227 rfl (lv_at hl 2 rfl) ?_
                refine va_get (D := E.1) (ci := 12) (v := .ref (q 42)) (C := RX12) (T := TX12) (N := 59) hx hb hts inX12 hown hK hP 0 rfl rfl 42 (by decide) fl106 (fun _ h9 => h9) rfl dX12_tries_228 ?_
                refine lv_iload hx hb dX12_tries_231 (lv_at hl 9 rfl) ?_
                refine va_iald hx hb hK hP 4 0 rfl rfl hi_6 dX12_tries_233 ?_
                refine lv_topi (fun x_38 ex_38 => ?_)
                obtain rfl : x_38 = nI w_9 := ex_38.trans ex_7.symm
                refine lv_iadd hx hb dX12_tries_234 ?_
                refine lv_topi (fun x_39 ex_39 => ?_)
                obtain rfl : x_39 = nI ((10 * po) + w_9) := ex_39.trans (nI_add (10 * po) w_9)
                refine va_iald hx hb hK hP 3 0 rfl rfl hi_13 dX12_tries_235 ?_
                refine lv_topi (fun x_40 ex_40 => ?_)
                refine lv_iadd hx hb dX12_tries_236 ?_
                refine lv_topi (fun x_41 ex_41 => ?_)
                have hPc := hP.sub (ws' := [(h0, .inr (12, mG q i_taped i_size i_sort i_what i_at i_end i_worth i_faultKind i_faultPlace i_got i_worked (nI dl) i_isPlanned i_bestDone i_bestCost)), (q 51, .inl (E.2.1 0, 512, .inl a_least)), (q 52, .inl (E.2.1 0, 512, .inl a_order)), (q 49, .inl (E.2.1 0, 100, .inl a_flights)), (q 42, .inl (E.2.1 0, 7, .inl a_dFrom)), (q 43, .inl (E.2.1 0, 7, .inl a_dTo)), (q 44, .inl (E.2.1 0, 7, .inl a_dDays)), (q 45, .inl (E.2.1 0, 7, .inl a_dFirst)), (q 46, .inl (E.2.1 0, 7, .inl a_dLast))]) [0, 1, 2, 3, 4, 5, 6, 7, 8] rfl
                have hDc := hD.sub (ws' := [(h0, .inr (12, mG q i_taped i_size i_sort i_what i_at i_end i_worth i_faultKind i_faultPlace i_got i_worked (nI dl) i_isPlanned i_bestDone i_bestCost)), (q 51, .inl (E.2.1 0, 512, .inl a_least)), (q 52, .inl (E.2.1 0, 512, .inl a_order)), (q 49, .inl (E.2.1 0, 100, .inl a_flights)), (q 42, .inl (E.2.1 0, 7, .inl a_dFrom)), (q 43, .inl (E.2.1 0, 7, .inl a_dTo)), (q 44, .inl (E.2.1 0, 7, .inl a_dDays)), (q 45, .inl (E.2.1 0, 7, .inl a_dFirst)), (q 46, .inl (E.2.1 0, 7, .inl a_dLast))]) [0, 1, 2, 3, 4, 5, 6, 7, 8] (by decide) rfl
                have hFc := va_free (wc := [(h0, .inr (12, mG q i_taped i_size i_sort i_what i_at i_end i_worth i_faultKind i_faultPlace i_got i_worked (nI dl) i_isPlanned i_bestDone i_bestCost)), (q 51, .inl (E.2.1 0, 512, .inl a_least)), (q 52, .inl (E.2.1 0, 512, .inl a_order)), (q 49, .inl (E.2.1 0, 100, .inl a_flights)), (q 42, .inl (E.2.1 0, 7, .inl a_dFrom)), (q 43, .inl (E.2.1 0, 7, .inl a_dTo)), (q 44, .inl (E.2.1 0, 7, .inl a_dDays)), (q 45, .inl (E.2.1 0, 7, .inl a_dFirst)), (q 46, .inl (E.2.1 0, 7, .inl a_dLast))]) hD hS hA [0, 1, 2, 3, 4, 5, 6, 7, 8] rfl
                refine va_callv (va_runV (As := [.int (nI cr), .int (nI w_26), .int x_30, .int (nI w_33), .int (nI ((8 * ro) + k)), .int x_41]) (rest := []) ⟨hx, hb, hml, hown, hts⟩ (c_X12_tries7 l E h0 q i_taped i_size i_sort i_what i_at i_end i_worth i_faultKind i_faultPlace i_got i_worked i_isPlanned i_bestDone i_bestCost dl cr w_26 w_33 ((8 * ro) + k) a_least a_order a_flights a_dFrom a_dTo a_dDays a_dFirst a_dLast x_30 x_41 H.size hcr (by omega) hw_34 hdl hw_34b (dg_step hro hlt) hI_order hI_dFrom hI_dTo) (cwV 6 hts gX12_tries_X12_tries rfl rfl rfl hdV_X12_tries ⟨Nat.le_of_ble_eq_true rfl, Nat.le_of_ble_eq_true rfl⟩) ⟨pcW_blind, va_recv hK hPc (ci := 12) (q0 := 0) rfl rfl, (pcW_pre hPc hkn hDc hst hS hFc)⟩ rfl rfl hl.1 rfl (lv_room (Nat.le_of_ble_eq_true rfl)) dX12_tries_237 ⟨Nat.le_of_ble_eq_true rfl, Nat.le_of_ble_eq_true rfl⟩) hS (fun q _ h => hFc q h) hFc (fun u t H1 locs ht hvm hw_43 hB hz1 hk1 hS => ?_)
                obtain ⟨u_44, u_45⟩ := u
                obtain ⟨hf_46, hP1, hD1⟩ := hB
                rw [ht] at hP1
                try dsimp only at hw_43
                obtain ⟨hP, hD⟩ := va_join (wr := []) (w1 := [(h0, .inr (12, mG q i_taped i_size i_sort i_what i_at i_end i_worth i_faultKind i_faultPlace i_got i_worked (nI dl) i_isPlanned i_bestDone i_bestCost)), (q 51, .inl (E.2.1 0, 512, .inl u_44)), (q 52, .inl (E.2.1 0, 512, .inl u_45)), (q 49, .inl (E.2.1 0, 100, .inl a_flights)), (q 42, .inl (E.2.1 0, 7, .inl a_dFrom)), (q 43, .inl (E.2.1 0, 7, .inl a_dTo)), (q 44, .inl (E.2.1 0, 7, .inl a_dDays)), (q 45, .inl (E.2.1 0, 7, .inl a_dFirst)), (q 46, .inl (E.2.1 0, 7, .inl a_dLast))]) hP hD [0, 1, 2, 3, 4, 5, 6, 7, 8] [] rfl rfl (by decide) (by decide) hk1 hFc hP1 hD1
                generalize H1 = H at hP hS ⊢
                have hP : va_P E.1 vwCl [(h0, .inr (12, mG q i_taped i_size i_sort i_what i_at i_end i_worth i_faultKind i_faultPlace i_got i_worked (nI dl) i_isPlanned i_bestDone i_bestCost)), (q 51, .inl (E.2.1 0, 512, .inl u_44)), (q 52, .inl (E.2.1 0, 512, .inl u_45)), (q 49, .inl (E.2.1 0, 100, .inl a_flights)), (q 42, .inl (E.2.1 0, 7, .inl a_dFrom)), (q 43, .inl (E.2.1 0, 7, .inl a_dTo)), (q 44, .inl (E.2.1 0, 7, .inl a_dDays)), (q 45, .inl (E.2.1 0, 7, .inl a_dFirst)), (q 46, .inl (E.2.1 0, 7, .inl a_dLast))] H := hP
                have hD : va_D A [(h0, .inr (12, mG q i_taped i_size i_sort i_what i_at i_end i_worth i_faultKind i_faultPlace i_got i_worked (nI dl) i_isPlanned i_bestDone i_bestCost)), (q 51, .inl (E.2.1 0, 512, .inl u_44)), (q 52, .inl (E.2.1 0, 512, .inl u_45)), (q 49, .inl (E.2.1 0, 100, .inl a_flights)), (q 42, .inl (E.2.1 0, 7, .inl a_dFrom)), (q 43, .inl (E.2.1 0, 7, .inl a_dTo)), (q 44, .inl (E.2.1 0, 7, .inl a_dDays)), (q 45, .inl (E.2.1 0, 7, .inl a_dFirst)), (q 46, .inl (E.2.1 0, 7, .inl a_dLast))] := hD
                refine lv_iinc (v := (nI (k + 1))) (lv' := [(8, .int (nI (k + 1))), (10, .int x_21), (9, .int x_18), (0, .ref h0), (1, .int (nI cr)), (2, .int (nI po)), (3, .int da), (4, .int (nI se_)), (5, .int (nI ro)), (6, .int co_)]) hx hb dX12_tries_240 hl (k := 9) rfl (show nI k + 1 = nI (k + 1) from nI_1 k) (by decide) rfl (fun ls hl => ?_)
                refine lv_goto (tgt := 78) hx hb dX12_tries_243 (by decide) ?_
                exact ih (k + 1) u_44 u_45 _ _ _ (by omega) (by omega) hf_46 (hP.sub [0, 1, 2, 3, 4, 5, 6, 7, 8] rfl) (hD.sub [0, 1, 2, 3, 4, 5, 6, 7, 8] (by decide) rfl) hS (lv_sub hl [3, 4, 5, 6, 7, 8, 9, 0] rfl)
              · refine lv_goto (tgt := 240) hx hb dX12_tries_180 (by decide) ?_
                refine lv_iinc (v := (nI (k + 1))) (lv' := [(8, .int (nI (k + 1))), (10, .int x_21), (9, .int x_18), (0, .ref h0), (1, .int (nI cr)), (2, .int (nI po)), (3, .int da), (4, .int (nI se_)), (5, .int (nI ro)), (6, .int co_)]) hx hb dX12_tries_240 hl (k := 9) rfl (show nI k + 1 = nI (k + 1) from nI_1 k) (by decide) rfl (fun ls hl => ?_)
                refine lv_goto (tgt := 78) hx hb dX12_tries_243 (by decide) ?_
                exact ih (k + 1) a_least a_order _ _ _ (by omega) (by omega) hI_order (hP.sub [0, 1, 2, 3, 4, 5, 6, 7, 8] rfl) (hD.sub [0, 1, 2, 3, 4, 5, 6, 7, 8] (by decide) rfl) hS (lv_sub hl [3, 4, 5, 6, 7, 8, 9, 0] rfl)
            · refine lv_iload hx hb dX12_tries_154 (lv_at hl 0 rfl) ?_
              refine lv_goto (tgt := 166) hx hb dX12_tries_156 (by decide) ?_
              refine lv_istore (lv' := [(10, .int x_18), (9, .int x_18), (0, .ref h0), (1, .int (nI cr)), (2, .int (nI po)), (3, .int da), (4, .int (nI se_)), (5, .int (nI ro)), (6, .int co_), (8, .int (nI k))]) hx hb dX12_tries_166 hl (by decide) rfl (fun ls hl => ?_)
              refine lv_iload hx hb dX12_tries_168 (lv_at hl 0 rfl) ?_
              refine lv_aload_n hx hb dX12_tries_170 rfl (lv_at hl 2 rfl) ?_
              refine va_get (D := E.1) (ci := 12) (v := .ref (q 46)) (C := RX12) (T := TX12) (N := 59) hx hb hts inX12 hown hK hP 0 rfl rfl 46 (by decide) fl118 (fun _ h9 => h9) rfl dX12_tries_171 ?_
              refine lv_iload hx hb dX12_tries_174 (lv_at hl 9 rfl) ?_
              refine va_iald hx hb hK hP 8 0 rfl rfl hi_6 dX12_tries_176 ?_
              refine lv_topi (fun x_47 ex_47 => ?_)
              refine lv_icmp_le (tgt := 183) hx hb dX12_tries_177 (by decide) (fun c_48 => ?_) (fun c_48 => ?_)
              · refine lv_aload_n hx hb dX12_tries_183 rfl (lv_at hl 2 rfl) ?_
                refine lv_iload_n hx hb dX12_tries_184 rfl (lv_at hl 3 rfl) ?_
                refine lv_aload_n hx hb dX12_tries_185 rfl (lv_at hl 2 rfl) ?_
                refine va_get (D := E.1) (ci := 12) (v := .ref (q 43)) (C := RX12) (T := TX12) (N := 59) hx hb hts inX12 hown hK hP 0 rfl rfl 43 (by decide) fl109 (fun _ h9 => h9) rfl dX12_tries_186 ?_
                refine lv_iload hx hb dX12_tries_189 (lv_at hl 9 rfl) ?_
                refine va_iald hx hb hK hP 5 0 rfl rfl hi_6 dX12_tries_191 ?_
                refine lv_topi (fun x_49 ex_49 => ?_)
                have hv_50 : inR x_49 0 9 = true := by rw [ex_49]; exact hI_dTo _ (vin_cl hi_6)
                obtain ⟨w_51, hw_52, ew_53⟩ := inR_nI (n := 9) (by decide) hv_50
                subst ew_53
                refine lv_iload hx hb dX12_tries_192 (lv_at hl 0 rfl) ?_
                refine lv_aload_n hx hb dX12_tries_194 rfl (lv_at hl 2 rfl) ?_
                refine va_get (D := E.1) (ci := 12) (v := .ref (q 44)) (C := RX12) (T := TX12) (N := 59) hx hb hts inX12 hown hK hP 0 rfl rfl 44 (by decide) fl112 (fun _ h9 => h9) rfl dX12_tries_195 ?_
                refine lv_iload hx hb dX12_tries_198 (lv_at hl 9 rfl) ?_
                refine va_iald hx hb hK hP 6 0 rfl rfl hi_6 dX12_tries_200 ?_
                refine lv_topi (fun x_54 ex_54 => ?_)
                refine lv_iadd hx hb dX12_tries_201 ?_
                refine lv_topi (fun x_55 ex_55 => ?_)
                refine lv_iload hx hb dX12_tries_202 (lv_at hl 6 rfl) ?_
                refine lv_iconst (v := 1) hx hb dX12_tries_204 (by decide) ?_
                refine lv_iload hx hb dX12_tries_205 (lv_at hl 9 rfl) ?_
                refine lv_ishl hx hb dX12_tries_207 ?_
                refine lv_topi (fun x_56 ex_56 => ?_)
                refine lv_ior hx hb dX12_tries_208 ?_
                refine lv_topi (fun x_57 ex_57 => ?_)
                obtain ⟨w_58, hw_59, hw_59b, hw_59e⟩ : ∃ w, w < 128 ∧ bc7 w = 6 + 1 ∧ x_57 = nI w := by rw [ex_57, ex_56]; exact tr_bit hse hlt hbc (by rw [ex_3, ex_2] at c_4; exact c_4)
                subst hw_59e
                refine lv_bipush (v := 8) hx hb dX12_tries_209 (by decide) ?_
                refine lv_iload hx hb dX12_tries_211 (lv_at hl 7 rfl) ?_
                refine lv_imul hx hb dX12_tries_213 ?_
                refine lv_topi (fun x_60 ex_60 => ?_)
                obtain rfl : x_60 = nI (8 * ro) := ex_60.trans (pk_mul 8 ro)
                refine lv_iload hx hb dX12_tries_214 (lv_at hl 9 rfl) ?_
                refine lv_iadd hx hb dX12_tries_216 ?_
                refine lv_topi (fun x_61 ex_61 => ?_)
                obtain rfl : x_61 = nI ((8 * ro) + k) := ex_61.trans (nI_add (8 * ro) k)
                refine lv_iload hx hb dX12_tries_217 (lv_at hl 8 rfl) ?_
                refine lv_aload_n hx hb dX12_tries_219 rfl (lv_at hl 2 rfl) ?_
                refine va_get (D := E.1) (ci := 12) (v := .ref (q 49)) (C := RX12) (T := TX12) (N := 59) hx hb hts inX12 hown hK hP 0 rfl rfl 49 (by decide) fl127 (fun _ h9 => h9) rfl dX12_tries_220 ?_
                refine lv_bipush (v := 10) hx hb dX12_tries_223 (by decide) ?_
                refine lv_iload_n hx hb dX12_tries_225 rfl (lv_at hl 4 rfl) ?_
                refine lv_imul hx hb dX12_tries_226 ?_
                refine lv_topi (fun x_62 ex_62 => ?_)
                obtain rfl : x_62 = nI (10 * po) := ex_62.trans (pk_mul 10 po)
                refine lv_aload_n hx hb dX12_tries_227 rfl (lv_at hl 2 rfl) ?_
                refine va_get (D := E.1) (ci := 12) (v := .ref (q 42)) (C := RX12) (T := TX12) (N := 59) hx hb hts inX12 hown hK hP 0 rfl rfl 42 (by decide) fl106 (fun _ h9 => h9) rfl dX12_tries_228 ?_
                refine lv_iload hx hb dX12_tries_231 (lv_at hl 9 rfl) ?_
                refine va_iald hx hb hK hP 4 0 rfl rfl hi_6 dX12_tries_233 ?_
                refine lv_topi (fun x_63 ex_63 => ?_)
                obtain rfl : x_63 = nI w_9 := ex_63.trans ex_7.symm
                refine lv_iadd hx hb dX12_tries_234 ?_
                refine lv_topi (fun x_64 ex_64 => ?_)
                obtain rfl : x_64 = nI ((10 * po) + w_9) := ex_64.trans (nI_add (10 * po) w_9)
                refine va_iald hx hb hK hP 3 0 rfl rfl hi_13 dX12_tries_235 ?_
                refine lv_topi (fun x_65 ex_65 => ?_)
                refine lv_iadd hx hb dX12_tries_236 ?_
                refine lv_topi (fun x_66 ex_66 => ?_)
                have hPc := hP.sub (ws' := [(h0, .inr (12, mG q i_taped i_size i_sort i_what i_at i_end i_worth i_faultKind i_faultPlace i_got i_worked (nI dl) i_isPlanned i_bestDone i_bestCost)), (q 51, .inl (E.2.1 0, 512, .inl a_least)), (q 52, .inl (E.2.1 0, 512, .inl a_order)), (q 49, .inl (E.2.1 0, 100, .inl a_flights)), (q 42, .inl (E.2.1 0, 7, .inl a_dFrom)), (q 43, .inl (E.2.1 0, 7, .inl a_dTo)), (q 44, .inl (E.2.1 0, 7, .inl a_dDays)), (q 45, .inl (E.2.1 0, 7, .inl a_dFirst)), (q 46, .inl (E.2.1 0, 7, .inl a_dLast))]) [0, 1, 2, 3, 4, 5, 6, 7, 8] rfl
                have hDc := hD.sub (ws' := [(h0, .inr (12, mG q i_taped i_size i_sort i_what i_at i_end i_worth i_faultKind i_faultPlace i_got i_worked (nI dl) i_isPlanned i_bestDone i_bestCost)), (q 51, .inl (E.2.1 0, 512, .inl a_least)), (q 52, .inl (E.2.1 0, 512, .inl a_order)), (q 49, .inl (E.2.1 0, 100, .inl a_flights)), (q 42, .inl (E.2.1 0, 7, .inl a_dFrom)), (q 43, .inl (E.2.1 0, 7, .inl a_dTo)), (q 44, .inl (E.2.1 0, 7, .inl a_dDays)), (q 45, .inl (E.2.1 0, 7, .inl a_dFirst)), (q 46, .inl (E.2.1 0, 7, .inl a_dLast))]) [0, 1, 2, 3, 4, 5, 6, 7, 8] (by decide) rfl
                have hFc := va_free (wc := [(h0, .inr (12, mG q i_taped i_size i_sort i_what i_at i_end i_worth i_faultKind i_faultPlace i_got i_worked (nI dl) i_isPlanned i_bestDone i_bestCost)), (q 51, .inl (E.2.1 0, 512, .inl a_least)), (q 52, .inl (E.2.1 0, 512, .inl a_order)), (q 49, .inl (E.2.1 0, 100, .inl a_flights)), (q 42, .inl (E.2.1 0, 7, .inl a_dFrom)), (q 43, .inl (E.2.1 0, 7, .inl a_dTo)), (q 44, .inl (E.2.1 0, 7, .inl a_dDays)), (q 45, .inl (E.2.1 0, 7, .inl a_dFirst)), (q 46, .inl (E.2.1 0, 7, .inl a_dLast))]) hD hS hA [0, 1, 2, 3, 4, 5, 6, 7, 8] rfl
                refine va_callv (va_runV (As := [.int (nI cr), .int (nI w_51), .int x_55, .int (nI w_58), .int (nI ((8 * ro) + k)), .int x_66]) (rest := []) ⟨hx, hb, hml, hown, hts⟩ (c_X12_tries7 l E h0 q i_taped i_size i_sort i_what i_at i_end i_worth i_faultKind i_faultPlace i_got i_worked i_isPlanned i_bestDone i_bestCost dl cr w_51 w_58 ((8 * ro) + k) a_least a_order a_flights a_dFrom a_dTo a_dDays a_dFirst a_dLast x_55 x_66 H.size hcr (by omega) hw_59 hdl hw_59b (dg_step hro hlt) hI_order hI_dFrom hI_dTo) (cwV 6 hts gX12_tries_X12_tries rfl rfl rfl hdV_X12_tries ⟨Nat.le_of_ble_eq_true rfl, Nat.le_of_ble_eq_true rfl⟩) ⟨pcW_blind, va_recv hK hPc (ci := 12) (q0 := 0) rfl rfl, (pcW_pre hPc hkn hDc hst hS hFc)⟩ rfl rfl hl.1 rfl (lv_room (Nat.le_of_ble_eq_true rfl)) dX12_tries_237 ⟨Nat.le_of_ble_eq_true rfl, Nat.le_of_ble_eq_true rfl⟩) hS (fun q _ h => hFc q h) hFc (fun u t H1 locs ht hvm hw_68 hB hz1 hk1 hS => ?_)
                obtain ⟨u_69, u_70⟩ := u
                obtain ⟨hf_71, hP1, hD1⟩ := hB
                rw [ht] at hP1
                try dsimp only at hw_68
                obtain ⟨hP, hD⟩ := va_join (wr := []) (w1 := [(h0, .inr (12, mG q i_taped i_size i_sort i_what i_at i_end i_worth i_faultKind i_faultPlace i_got i_worked (nI dl) i_isPlanned i_bestDone i_bestCost)), (q 51, .inl (E.2.1 0, 512, .inl u_69)), (q 52, .inl (E.2.1 0, 512, .inl u_70)), (q 49, .inl (E.2.1 0, 100, .inl a_flights)), (q 42, .inl (E.2.1 0, 7, .inl a_dFrom)), (q 43, .inl (E.2.1 0, 7, .inl a_dTo)), (q 44, .inl (E.2.1 0, 7, .inl a_dDays)), (q 45, .inl (E.2.1 0, 7, .inl a_dFirst)), (q 46, .inl (E.2.1 0, 7, .inl a_dLast))]) hP hD [0, 1, 2, 3, 4, 5, 6, 7, 8] [] rfl rfl (by decide) (by decide) hk1 hFc hP1 hD1
                generalize H1 = H at hP hS ⊢
                have hP : va_P E.1 vwCl [(h0, .inr (12, mG q i_taped i_size i_sort i_what i_at i_end i_worth i_faultKind i_faultPlace i_got i_worked (nI dl) i_isPlanned i_bestDone i_bestCost)), (q 51, .inl (E.2.1 0, 512, .inl u_69)), (q 52, .inl (E.2.1 0, 512, .inl u_70)), (q 49, .inl (E.2.1 0, 100, .inl a_flights)), (q 42, .inl (E.2.1 0, 7, .inl a_dFrom)), (q 43, .inl (E.2.1 0, 7, .inl a_dTo)), (q 44, .inl (E.2.1 0, 7, .inl a_dDays)), (q 45, .inl (E.2.1 0, 7, .inl a_dFirst)), (q 46, .inl (E.2.1 0, 7, .inl a_dLast))] H := hP
                have hD : va_D A [(h0, .inr (12, mG q i_taped i_size i_sort i_what i_at i_end i_worth i_faultKind i_faultPlace i_got i_worked (nI dl) i_isPlanned i_bestDone i_bestCost)), (q 51, .inl (E.2.1 0, 512, .inl u_69)), (q 52, .inl (E.2.1 0, 512, .inl u_70)), (q 49, .inl (E.2.1 0, 100, .inl a_flights)), (q 42, .inl (E.2.1 0, 7, .inl a_dFrom)), (q 43, .inl (E.2.1 0, 7, .inl a_dTo)), (q 44, .inl (E.2.1 0, 7, .inl a_dDays)), (q 45, .inl (E.2.1 0, 7, .inl a_dFirst)), (q 46, .inl (E.2.1 0, 7, .inl a_dLast))] := hD
                refine lv_iinc (v := (nI (k + 1))) (lv' := [(8, .int (nI (k + 1))), (10, .int x_18), (9, .int x_18), (0, .ref h0), (1, .int (nI cr)), (2, .int (nI po)), (3, .int da), (4, .int (nI se_)), (5, .int (nI ro)), (6, .int co_)]) hx hb dX12_tries_240 hl (k := 9) rfl (show nI k + 1 = nI (k + 1) from nI_1 k) (by decide) rfl (fun ls hl => ?_)
                refine lv_goto (tgt := 78) hx hb dX12_tries_243 (by decide) ?_
                exact ih (k + 1) u_69 u_70 _ _ _ (by omega) (by omega) hf_71 (hP.sub [0, 1, 2, 3, 4, 5, 6, 7, 8] rfl) (hD.sub [0, 1, 2, 3, 4, 5, 6, 7, 8] (by decide) rfl) hS (lv_sub hl [3, 4, 5, 6, 7, 8, 9, 0] rfl)
              · refine lv_goto (tgt := 240) hx hb dX12_tries_180 (by decide) ?_
                refine lv_iinc (v := (nI (k + 1))) (lv' := [(8, .int (nI (k + 1))), (10, .int x_18), (9, .int x_18), (0, .ref h0), (1, .int (nI cr)), (2, .int (nI po)), (3, .int da), (4, .int (nI se_)), (5, .int (nI ro)), (6, .int co_)]) hx hb dX12_tries_240 hl (k := 9) rfl (show nI k + 1 = nI (k + 1) from nI_1 k) (by decide) rfl (fun ls hl => ?_)
                refine lv_goto (tgt := 78) hx hb dX12_tries_243 (by decide) ?_
                exact ih (k + 1) a_least a_order _ _ _ (by omega) (by omega) hI_order (hP.sub [0, 1, 2, 3, 4, 5, 6, 7, 8] rfl) (hD.sub [0, 1, 2, 3, 4, 5, 6, 7, 8] (by decide) rfl) hS (lv_sub hl [3, 4, 5, 6, 7, 8, 9, 0] rfl)
          · refine lv_iconst (v := 0) hx hb dX12_tries_134 (by decide) ?_
            refine lv_goto (tgt := 139) hx hb dX12_tries_135 (by decide) ?_
            refine lv_iadd hx hb dX12_tries_139 ?_
            refine lv_topi (fun x_72 ex_72 => ?_)
            refine lv_istore (lv' := [(9, .int x_72), (0, .ref h0), (1, .int (nI cr)), (2, .int (nI po)), (3, .int da), (4, .int (nI se_)), (5, .int (nI ro)), (6, .int co_), (8, .int (nI k))]) hx hb dX12_tries_140 hl (by decide) rfl (fun ls hl => ?_)
            refine lv_iload hx hb dX12_tries_142 (lv_at hl 0 rfl) ?_
            refine lv_aload_n hx hb dX12_tries_144 rfl (lv_at hl 1 rfl) ?_
            refine va_get (D := E.1) (ci := 12) (v := .ref (q 45)) (C := RX12) (T := TX12) (N := 59) hx hb hts inX12 hown hK hP 0 rfl rfl 45 (by decide) fl115 (fun _ h9 => h9) rfl dX12_tries_145 ?_
            refine lv_iload hx hb dX12_tries_148 (lv_at hl 8 rfl) ?_
            refine va_iald hx hb hK hP 7 0 rfl rfl hi_6 dX12_tries_150 ?_
            refine lv_topi (fun x_73 ex_73 => ?_)
            refine lv_icmp_le (tgt := 159) hx hb dX12_tries_151 (by decide) (fun c_74 => ?_) (fun c_74 => ?_)
            · refine lv_aload_n hx hb dX12_tries_159 rfl (lv_at hl 1 rfl) ?_
              refine va_get (D := E.1) (ci := 12) (v := .ref (q 45)) (C := RX12) (T := TX12) (N := 59) hx hb hts inX12 hown hK hP 0 rfl rfl 45 (by decide) fl115 (fun _ h9 => h9) rfl dX12_tries_160 ?_
              refine lv_iload hx hb dX12_tries_163 (lv_at hl 8 rfl) ?_
              refine va_iald hx hb hK hP 7 0 rfl rfl hi_6 dX12_tries_165 ?_
              refine lv_topi (fun x_75 ex_75 => ?_)
              refine lv_istore (lv' := [(10, .int x_75), (9, .int x_72), (0, .ref h0), (1, .int (nI cr)), (2, .int (nI po)), (3, .int da), (4, .int (nI se_)), (5, .int (nI ro)), (6, .int co_), (8, .int (nI k))]) hx hb dX12_tries_166 hl (by decide) rfl (fun ls hl => ?_)
              refine lv_iload hx hb dX12_tries_168 (lv_at hl 0 rfl) ?_
              refine lv_aload_n hx hb dX12_tries_170 rfl (lv_at hl 2 rfl) ?_
              refine va_get (D := E.1) (ci := 12) (v := .ref (q 46)) (C := RX12) (T := TX12) (N := 59) hx hb hts inX12 hown hK hP 0 rfl rfl 46 (by decide) fl118 (fun _ h9 => h9) rfl dX12_tries_171 ?_
              refine lv_iload hx hb dX12_tries_174 (lv_at hl 9 rfl) ?_
              refine va_iald hx hb hK hP 8 0 rfl rfl hi_6 dX12_tries_176 ?_
              refine lv_topi (fun x_76 ex_76 => ?_)
              refine lv_icmp_le (tgt := 183) hx hb dX12_tries_177 (by decide) (fun c_77 => ?_) (fun c_77 => ?_)
              · refine lv_aload_n hx hb dX12_tries_183 rfl (lv_at hl 2 rfl) ?_
                refine lv_iload_n hx hb dX12_tries_184 rfl (lv_at hl 3 rfl) ?_
                refine lv_aload_n hx hb dX12_tries_185 rfl (lv_at hl 2 rfl) ?_
                refine va_get (D := E.1) (ci := 12) (v := .ref (q 43)) (C := RX12) (T := TX12) (N := 59) hx hb hts inX12 hown hK hP 0 rfl rfl 43 (by decide) fl109 (fun _ h9 => h9) rfl dX12_tries_186 ?_
                refine lv_iload hx hb dX12_tries_189 (lv_at hl 9 rfl) ?_
                refine va_iald hx hb hK hP 5 0 rfl rfl hi_6 dX12_tries_191 ?_
                refine lv_topi (fun x_78 ex_78 => ?_)
                have hv_79 : inR x_78 0 9 = true := by rw [ex_78]; exact hI_dTo _ (vin_cl hi_6)
                obtain ⟨w_80, hw_81, ew_82⟩ := inR_nI (n := 9) (by decide) hv_79
                subst ew_82
                refine lv_iload hx hb dX12_tries_192 (lv_at hl 0 rfl) ?_
                refine lv_aload_n hx hb dX12_tries_194 rfl (lv_at hl 2 rfl) ?_
                refine va_get (D := E.1) (ci := 12) (v := .ref (q 44)) (C := RX12) (T := TX12) (N := 59) hx hb hts inX12 hown hK hP 0 rfl rfl 44 (by decide) fl112 (fun _ h9 => h9) rfl dX12_tries_195 ?_
                refine lv_iload hx hb dX12_tries_198 (lv_at hl 9 rfl) ?_
                refine va_iald hx hb hK hP 6 0 rfl rfl hi_6 dX12_tries_200 ?_
                refine lv_topi (fun x_83 ex_83 => ?_)
                refine lv_iadd hx hb dX12_tries_201 ?_
                refine lv_topi (fun x_84 ex_84 => ?_)
                refine lv_iload hx hb dX12_tries_202 (lv_at hl 6 rfl) ?_
                refine lv_iconst (v := 1) hx hb dX12_tries_204 (by decide) ?_
                refine lv_iload hx hb dX12_tries_205 (lv_at hl 9 rfl) ?_
                refine lv_ishl hx hb dX12_tries_207 ?_
                refine lv_topi (fun x_85 ex_85 => ?_)
                refine lv_ior hx hb dX12_tries_208 ?_
                refine lv_topi (fun x_86 ex_86 => ?_)
                obtain ⟨w_87, hw_88, hw_88b, hw_88e⟩ : ∃ w, w < 128 ∧ bc7 w = 6 + 1 ∧ x_86 = nI w := by rw [ex_86, ex_85]; exact tr_bit hse hlt hbc (by rw [ex_3, ex_2] at c_4; exact c_4)
                subst hw_88e
                refine lv_bipush (v := 8) hx hb dX12_tries_209 (by decide) ?_
                refine lv_iload hx hb dX12_tries_211 (lv_at hl 7 rfl) ?_
                refine lv_imul hx hb dX12_tries_213 ?_
                refine lv_topi (fun x_89 ex_89 => ?_)
                obtain rfl : x_89 = nI (8 * ro) := ex_89.trans (pk_mul 8 ro)
                refine lv_iload hx hb dX12_tries_214 (lv_at hl 9 rfl) ?_
                refine lv_iadd hx hb dX12_tries_216 ?_
                refine lv_topi (fun x_90 ex_90 => ?_)
                obtain rfl : x_90 = nI ((8 * ro) + k) := ex_90.trans (nI_add (8 * ro) k)
                refine lv_iload hx hb dX12_tries_217 (lv_at hl 8 rfl) ?_
                refine lv_aload_n hx hb dX12_tries_219 rfl (lv_at hl 2 rfl) ?_
                refine va_get (D := E.1) (ci := 12) (v := .ref (q 49)) (C := RX12) (T := TX12) (N := 59) hx hb hts inX12 hown hK hP 0 rfl rfl 49 (by decide) fl127 (fun _ h9 => h9) rfl dX12_tries_220 ?_
                refine lv_bipush (v := 10) hx hb dX12_tries_223 (by decide) ?_
                refine lv_iload_n hx hb dX12_tries_225 rfl (lv_at hl 4 rfl) ?_
                refine lv_imul hx hb dX12_tries_226 ?_
                refine lv_topi (fun x_91 ex_91 => ?_)
                obtain rfl : x_91 = nI (10 * po) := ex_91.trans (pk_mul 10 po)
                refine lv_aload_n hx hb dX12_tries_227 rfl (lv_at hl 2 rfl) ?_
                refine va_get (D := E.1) (ci := 12) (v := .ref (q 42)) (C := RX12) (T := TX12) (N := 59) hx hb hts inX12 hown hK hP 0 rfl rfl 42 (by decide) fl106 (fun _ h9 => h9) rfl dX12_tries_228 ?_
                refine lv_iload hx hb dX12_tries_231 (lv_at hl 9 rfl) ?_
                refine va_iald hx hb hK hP 4 0 rfl rfl hi_6 dX12_tries_233 ?_
                refine lv_topi (fun x_92 ex_92 => ?_)
                obtain rfl : x_92 = nI w_9 := ex_92.trans ex_7.symm
                refine lv_iadd hx hb dX12_tries_234 ?_
                refine lv_topi (fun x_93 ex_93 => ?_)
                obtain rfl : x_93 = nI ((10 * po) + w_9) := ex_93.trans (nI_add (10 * po) w_9)
                refine va_iald hx hb hK hP 3 0 rfl rfl hi_13 dX12_tries_235 ?_
                refine lv_topi (fun x_94 ex_94 => ?_)
                refine lv_iadd hx hb dX12_tries_236 ?_
                refine lv_topi (fun x_95 ex_95 => ?_)
                have hPc := hP.sub (ws' := [(h0, .inr (12, mG q i_taped i_size i_sort i_what i_at i_end i_worth i_faultKind i_faultPlace i_got i_worked (nI dl) i_isPlanned i_bestDone i_bestCost)), (q 51, .inl (E.2.1 0, 512, .inl a_least)), (q 52, .inl (E.2.1 0, 512, .inl a_order)), (q 49, .inl (E.2.1 0, 100, .inl a_flights)), (q 42, .inl (E.2.1 0, 7, .inl a_dFrom)), (q 43, .inl (E.2.1 0, 7, .inl a_dTo)), (q 44, .inl (E.2.1 0, 7, .inl a_dDays)), (q 45, .inl (E.2.1 0, 7, .inl a_dFirst)), (q 46, .inl (E.2.1 0, 7, .inl a_dLast))]) [0, 1, 2, 3, 4, 5, 6, 7, 8] rfl
                have hDc := hD.sub (ws' := [(h0, .inr (12, mG q i_taped i_size i_sort i_what i_at i_end i_worth i_faultKind i_faultPlace i_got i_worked (nI dl) i_isPlanned i_bestDone i_bestCost)), (q 51, .inl (E.2.1 0, 512, .inl a_least)), (q 52, .inl (E.2.1 0, 512, .inl a_order)), (q 49, .inl (E.2.1 0, 100, .inl a_flights)), (q 42, .inl (E.2.1 0, 7, .inl a_dFrom)), (q 43, .inl (E.2.1 0, 7, .inl a_dTo)), (q 44, .inl (E.2.1 0, 7, .inl a_dDays)), (q 45, .inl (E.2.1 0, 7, .inl a_dFirst)), (q 46, .inl (E.2.1 0, 7, .inl a_dLast))]) [0, 1, 2, 3, 4, 5, 6, 7, 8] (by decide) rfl
                have hFc := va_free (wc := [(h0, .inr (12, mG q i_taped i_size i_sort i_what i_at i_end i_worth i_faultKind i_faultPlace i_got i_worked (nI dl) i_isPlanned i_bestDone i_bestCost)), (q 51, .inl (E.2.1 0, 512, .inl a_least)), (q 52, .inl (E.2.1 0, 512, .inl a_order)), (q 49, .inl (E.2.1 0, 100, .inl a_flights)), (q 42, .inl (E.2.1 0, 7, .inl a_dFrom)), (q 43, .inl (E.2.1 0, 7, .inl a_dTo)), (q 44, .inl (E.2.1 0, 7, .inl a_dDays)), (q 45, .inl (E.2.1 0, 7, .inl a_dFirst)), (q 46, .inl (E.2.1 0, 7, .inl a_dLast))]) hD hS hA [0, 1, 2, 3, 4, 5, 6, 7, 8] rfl
                refine va_callv (va_runV (As := [.int (nI cr), .int (nI w_80), .int x_84, .int (nI w_87), .int (nI ((8 * ro) + k)), .int x_95]) (rest := []) ⟨hx, hb, hml, hown, hts⟩ (c_X12_tries7 l E h0 q i_taped i_size i_sort i_what i_at i_end i_worth i_faultKind i_faultPlace i_got i_worked i_isPlanned i_bestDone i_bestCost dl cr w_80 w_87 ((8 * ro) + k) a_least a_order a_flights a_dFrom a_dTo a_dDays a_dFirst a_dLast x_84 x_95 H.size hcr (by omega) hw_88 hdl hw_88b (dg_step hro hlt) hI_order hI_dFrom hI_dTo) (cwV 6 hts gX12_tries_X12_tries rfl rfl rfl hdV_X12_tries ⟨Nat.le_of_ble_eq_true rfl, Nat.le_of_ble_eq_true rfl⟩) ⟨pcW_blind, va_recv hK hPc (ci := 12) (q0 := 0) rfl rfl, (pcW_pre hPc hkn hDc hst hS hFc)⟩ rfl rfl hl.1 rfl (lv_room (Nat.le_of_ble_eq_true rfl)) dX12_tries_237 ⟨Nat.le_of_ble_eq_true rfl, Nat.le_of_ble_eq_true rfl⟩) hS (fun q _ h => hFc q h) hFc (fun u t H1 locs ht hvm hw_97 hB hz1 hk1 hS => ?_)
                obtain ⟨u_98, u_99⟩ := u
                obtain ⟨hf_100, hP1, hD1⟩ := hB
                rw [ht] at hP1
                try dsimp only at hw_97
                obtain ⟨hP, hD⟩ := va_join (wr := []) (w1 := [(h0, .inr (12, mG q i_taped i_size i_sort i_what i_at i_end i_worth i_faultKind i_faultPlace i_got i_worked (nI dl) i_isPlanned i_bestDone i_bestCost)), (q 51, .inl (E.2.1 0, 512, .inl u_98)), (q 52, .inl (E.2.1 0, 512, .inl u_99)), (q 49, .inl (E.2.1 0, 100, .inl a_flights)), (q 42, .inl (E.2.1 0, 7, .inl a_dFrom)), (q 43, .inl (E.2.1 0, 7, .inl a_dTo)), (q 44, .inl (E.2.1 0, 7, .inl a_dDays)), (q 45, .inl (E.2.1 0, 7, .inl a_dFirst)), (q 46, .inl (E.2.1 0, 7, .inl a_dLast))]) hP hD [0, 1, 2, 3, 4, 5, 6, 7, 8] [] rfl rfl (by decide) (by decide) hk1 hFc hP1 hD1
                generalize H1 = H at hP hS ⊢
                have hP : va_P E.1 vwCl [(h0, .inr (12, mG q i_taped i_size i_sort i_what i_at i_end i_worth i_faultKind i_faultPlace i_got i_worked (nI dl) i_isPlanned i_bestDone i_bestCost)), (q 51, .inl (E.2.1 0, 512, .inl u_98)), (q 52, .inl (E.2.1 0, 512, .inl u_99)), (q 49, .inl (E.2.1 0, 100, .inl a_flights)), (q 42, .inl (E.2.1 0, 7, .inl a_dFrom)), (q 43, .inl (E.2.1 0, 7, .inl a_dTo)), (q 44, .inl (E.2.1 0, 7, .inl a_dDays)), (q 45, .inl (E.2.1 0, 7, .inl a_dFirst)), (q 46, .inl (E.2.1 0, 7, .inl a_dLast))] H := hP
                have hD : va_D A [(h0, .inr (12, mG q i_taped i_size i_sort i_what i_at i_end i_worth i_faultKind i_faultPlace i_got i_worked (nI dl) i_isPlanned i_bestDone i_bestCost)), (q 51, .inl (E.2.1 0, 512, .inl u_98)), (q 52, .inl (E.2.1 0, 512, .inl u_99)), (q 49, .inl (E.2.1 0, 100, .inl a_flights)), (q 42, .inl (E.2.1 0, 7, .inl a_dFrom)), (q 43, .inl (E.2.1 0, 7, .inl a_dTo)), (q 44, .inl (E.2.1 0, 7, .inl a_dDays)), (q 45, .inl (E.2.1 0, 7, .inl a_dFirst)), (q 46, .inl (E.2.1 0, 7, .inl a_dLast))] := hD
                refine lv_iinc (v := (nI (k + 1))) (lv' := [(8, .int (nI (k + 1))), (10, .int x_75), (9, .int x_72), (0, .ref h0), (1, .int (nI cr)), (2, .int (nI po)), (3, .int da), (4, .int (nI se_)), (5, .int (nI ro)), (6, .int co_)]) hx hb dX12_tries_240 hl (k := 9) rfl (show nI k + 1 = nI (k + 1) from nI_1 k) (by decide) rfl (fun ls hl => ?_)
                refine lv_goto (tgt := 78) hx hb dX12_tries_243 (by decide) ?_
                exact ih (k + 1) u_98 u_99 _ _ _ (by omega) (by omega) hf_100 (hP.sub [0, 1, 2, 3, 4, 5, 6, 7, 8] rfl) (hD.sub [0, 1, 2, 3, 4, 5, 6, 7, 8] (by decide) rfl) hS (lv_sub hl [3, 4, 5, 6, 7, 8, 9, 0] rfl)
              · refine lv_goto (tgt := 240) hx hb dX12_tries_180 (by decide) ?_
                refine lv_iinc (v := (nI (k + 1))) (lv' := [(8, .int (nI (k + 1))), (10, .int x_75), (9, .int x_72), (0, .ref h0), (1, .int (nI cr)), (2, .int (nI po)), (3, .int da), (4, .int (nI se_)), (5, .int (nI ro)), (6, .int co_)]) hx hb dX12_tries_240 hl (k := 9) rfl (show nI k + 1 = nI (k + 1) from nI_1 k) (by decide) rfl (fun ls hl => ?_)
                refine lv_goto (tgt := 78) hx hb dX12_tries_243 (by decide) ?_
                exact ih (k + 1) a_least a_order _ _ _ (by omega) (by omega) hI_order (hP.sub [0, 1, 2, 3, 4, 5, 6, 7, 8] rfl) (hD.sub [0, 1, 2, 3, 4, 5, 6, 7, 8] (by decide) rfl) hS (lv_sub hl [3, 4, 5, 6, 7, 8, 9, 0] rfl)
            · refine lv_iload hx hb dX12_tries_154 (lv_at hl 0 rfl) ?_
              refine lv_goto (tgt := 166) hx hb dX12_tries_156 (by decide) ?_
              refine lv_istore (lv' := [(10, .int x_72), (9, .int x_72), (0, .ref h0), (1, .int (nI cr)), (2, .int (nI po)), (3, .int da), (4, .int (nI se_)), (5, .int (nI ro)), (6, .int co_), (8, .int (nI k))]) hx hb dX12_tries_166 hl (by decide) rfl (fun ls hl => ?_)
              refine lv_iload hx hb dX12_tries_168 (lv_at hl 0 rfl) ?_
              refine lv_aload_n hx hb dX12_tries_170 rfl (lv_at hl 2 rfl) ?_
              refine va_get (D := E.1) (ci := 12) (v := .ref (q 46)) (C := RX12) (T := TX12) (N := 59) hx hb hts inX12 hown hK hP 0 rfl rfl 46 (by decide) fl118 (fun _ h9 => h9) rfl dX12_tries_171 ?_
              refine lv_iload hx hb dX12_tries_174 (lv_at hl 9 rfl) ?_
              refine va_iald hx hb hK hP 8 0 rfl rfl hi_6 dX12_tries_176 ?_
              refine lv_topi (fun x_101 ex_101 => ?_)
              refine lv_icmp_le (tgt := 183) hx hb dX12_tries_177 (by decide) (fun c_102 => ?_) (fun c_102 => ?_)
              · refine lv_aload_n hx hb dX12_tries_183 rfl (lv_at hl 2 rfl) ?_
                refine lv_iload_n hx hb dX12_tries_184 rfl (lv_at hl 3 rfl) ?_
                refine lv_aload_n hx hb dX12_tries_185 rfl (lv_at hl 2 rfl) ?_
                refine va_get (D := E.1) (ci := 12) (v := .ref (q 43)) (C := RX12) (T := TX12) (N := 59) hx hb hts inX12 hown hK hP 0 rfl rfl 43 (by decide) fl109 (fun _ h9 => h9) rfl dX12_tries_186 ?_
                refine lv_iload hx hb dX12_tries_189 (lv_at hl 9 rfl) ?_
                refine va_iald hx hb hK hP 5 0 rfl rfl hi_6 dX12_tries_191 ?_
                refine lv_topi (fun x_103 ex_103 => ?_)
                have hv_104 : inR x_103 0 9 = true := by rw [ex_103]; exact hI_dTo _ (vin_cl hi_6)
                obtain ⟨w_105, hw_106, ew_107⟩ := inR_nI (n := 9) (by decide) hv_104
                subst ew_107
                refine lv_iload hx hb dX12_tries_192 (lv_at hl 0 rfl) ?_
                refine lv_aload_n hx hb dX12_tries_194 rfl (lv_at hl 2 rfl) ?_
                refine va_get (D := E.1) (ci := 12) (v := .ref (q 44)) (C := RX12) (T := TX12) (N := 59) hx hb hts inX12 hown hK hP 0 rfl rfl 44 (by decide) fl112 (fun _ h9 => h9) rfl dX12_tries_195 ?_
                refine lv_iload hx hb dX12_tries_198 (lv_at hl 9 rfl) ?_
                refine va_iald hx hb hK hP 6 0 rfl rfl hi_6 dX12_tries_200 ?_
                refine lv_topi (fun x_108 ex_108 => ?_)
                refine lv_iadd hx hb dX12_tries_201 ?_
                refine lv_topi (fun x_109 ex_109 => ?_)
                refine lv_iload hx hb dX12_tries_202 (lv_at hl 6 rfl) ?_
                refine lv_iconst (v := 1) hx hb dX12_tries_204 (by decide) ?_
                refine lv_iload hx hb dX12_tries_205 (lv_at hl 9 rfl) ?_
                refine lv_ishl hx hb dX12_tries_207 ?_
                refine lv_topi (fun x_110 ex_110 => ?_)
                refine lv_ior hx hb dX12_tries_208 ?_
                refine lv_topi (fun x_111 ex_111 => ?_)
                obtain ⟨w_112, hw_113, hw_113b, hw_113e⟩ : ∃ w, w < 128 ∧ bc7 w = 6 + 1 ∧ x_111 = nI w := by rw [ex_111, ex_110]; exact tr_bit hse hlt hbc (by rw [ex_3, ex_2] at c_4; exact c_4)
                subst hw_113e
                refine lv_bipush (v := 8) hx hb dX12_tries_209 (by decide) ?_
                refine lv_iload hx hb dX12_tries_211 (lv_at hl 7 rfl) ?_
                refine lv_imul hx hb dX12_tries_213 ?_
                refine lv_topi (fun x_114 ex_114 => ?_)
                obtain rfl : x_114 = nI (8 * ro) := ex_114.trans (pk_mul 8 ro)
                refine lv_iload hx hb dX12_tries_214 (lv_at hl 9 rfl) ?_
                refine lv_iadd hx hb dX12_tries_216 ?_
                refine lv_topi (fun x_115 ex_115 => ?_)
                obtain rfl : x_115 = nI ((8 * ro) + k) := ex_115.trans (nI_add (8 * ro) k)
                refine lv_iload hx hb dX12_tries_217 (lv_at hl 8 rfl) ?_
                refine lv_aload_n hx hb dX12_tries_219 rfl (lv_at hl 2 rfl) ?_
                refine va_get (D := E.1) (ci := 12) (v := .ref (q 49)) (C := RX12) (T := TX12) (N := 59) hx hb hts inX12 hown hK hP 0 rfl rfl 49 (by decide) fl127 (fun _ h9 => h9) rfl dX12_tries_220 ?_
                refine lv_bipush (v := 10) hx hb dX12_tries_223 (by decide) ?_
                refine lv_iload_n hx hb dX12_tries_225 rfl (lv_at hl 4 rfl) ?_
                refine lv_imul hx hb dX12_tries_226 ?_
                refine lv_topi (fun x_116 ex_116 => ?_)
                obtain rfl : x_116 = nI (10 * po) := ex_116.trans (pk_mul 10 po)
                refine lv_aload_n hx hb dX12_tries_227 rfl (lv_at hl 2 rfl) ?_
                refine va_get (D := E.1) (ci := 12) (v := .ref (q 42)) (C := RX12) (T := TX12) (N := 59) hx hb hts inX12 hown hK hP 0 rfl rfl 42 (by decide) fl106 (fun _ h9 => h9) rfl dX12_tries_228 ?_
                refine lv_iload hx hb dX12_tries_231 (lv_at hl 9 rfl) ?_
                refine va_iald hx hb hK hP 4 0 rfl rfl hi_6 dX12_tries_233 ?_
                refine lv_topi (fun x_117 ex_117 => ?_)
                obtain rfl : x_117 = nI w_9 := ex_117.trans ex_7.symm
                refine lv_iadd hx hb dX12_tries_234 ?_
                refine lv_topi (fun x_118 ex_118 => ?_)
                obtain rfl : x_118 = nI ((10 * po) + w_9) := ex_118.trans (nI_add (10 * po) w_9)
                refine va_iald hx hb hK hP 3 0 rfl rfl hi_13 dX12_tries_235 ?_
                refine lv_topi (fun x_119 ex_119 => ?_)
                refine lv_iadd hx hb dX12_tries_236 ?_
                refine lv_topi (fun x_120 ex_120 => ?_)
                have hPc := hP.sub (ws' := [(h0, .inr (12, mG q i_taped i_size i_sort i_what i_at i_end i_worth i_faultKind i_faultPlace i_got i_worked (nI dl) i_isPlanned i_bestDone i_bestCost)), (q 51, .inl (E.2.1 0, 512, .inl a_least)), (q 52, .inl (E.2.1 0, 512, .inl a_order)), (q 49, .inl (E.2.1 0, 100, .inl a_flights)), (q 42, .inl (E.2.1 0, 7, .inl a_dFrom)), (q 43, .inl (E.2.1 0, 7, .inl a_dTo)), (q 44, .inl (E.2.1 0, 7, .inl a_dDays)), (q 45, .inl (E.2.1 0, 7, .inl a_dFirst)), (q 46, .inl (E.2.1 0, 7, .inl a_dLast))]) [0, 1, 2, 3, 4, 5, 6, 7, 8] rfl
                have hDc := hD.sub (ws' := [(h0, .inr (12, mG q i_taped i_size i_sort i_what i_at i_end i_worth i_faultKind i_faultPlace i_got i_worked (nI dl) i_isPlanned i_bestDone i_bestCost)), (q 51, .inl (E.2.1 0, 512, .inl a_least)), (q 52, .inl (E.2.1 0, 512, .inl a_order)), (q 49, .inl (E.2.1 0, 100, .inl a_flights)), (q 42, .inl (E.2.1 0, 7, .inl a_dFrom)), (q 43, .inl (E.2.1 0, 7, .inl a_dTo)), (q 44, .inl (E.2.1 0, 7, .inl a_dDays)), (q 45, .inl (E.2.1 0, 7, .inl a_dFirst)), (q 46, .inl (E.2.1 0, 7, .inl a_dLast))]) [0, 1, 2, 3, 4, 5, 6, 7, 8] (by decide) rfl
                have hFc := va_free (wc := [(h0, .inr (12, mG q i_taped i_size i_sort i_what i_at i_end i_worth i_faultKind i_faultPlace i_got i_worked (nI dl) i_isPlanned i_bestDone i_bestCost)), (q 51, .inl (E.2.1 0, 512, .inl a_least)), (q 52, .inl (E.2.1 0, 512, .inl a_order)), (q 49, .inl (E.2.1 0, 100, .inl a_flights)), (q 42, .inl (E.2.1 0, 7, .inl a_dFrom)), (q 43, .inl (E.2.1 0, 7, .inl a_dTo)), (q 44, .inl (E.2.1 0, 7, .inl a_dDays)), (q 45, .inl (E.2.1 0, 7, .inl a_dFirst)), (q 46, .inl (E.2.1 0, 7, .inl a_dLast))]) hD hS hA [0, 1, 2, 3, 4, 5, 6, 7, 8] rfl
                refine va_callv (va_runV (As := [.int (nI cr), .int (nI w_105), .int x_109, .int (nI w_112), .int (nI ((8 * ro) + k)), .int x_120]) (rest := []) ⟨hx, hb, hml, hown, hts⟩ (c_X12_tries7 l E h0 q i_taped i_size i_sort i_what i_at i_end i_worth i_faultKind i_faultPlace i_got i_worked i_isPlanned i_bestDone i_bestCost dl cr w_105 w_112 ((8 * ro) + k) a_least a_order a_flights a_dFrom a_dTo a_dDays a_dFirst a_dLast x_109 x_120 H.size hcr (by omega) hw_113 hdl hw_113b (dg_step hro hlt) hI_order hI_dFrom hI_dTo) (cwV 6 hts gX12_tries_X12_tries rfl rfl rfl hdV_X12_tries ⟨Nat.le_of_ble_eq_true rfl, Nat.le_of_ble_eq_true rfl⟩) ⟨pcW_blind, va_recv hK hPc (ci := 12) (q0 := 0) rfl rfl, (pcW_pre hPc hkn hDc hst hS hFc)⟩ rfl rfl hl.1 rfl (lv_room (Nat.le_of_ble_eq_true rfl)) dX12_tries_237 ⟨Nat.le_of_ble_eq_true rfl, Nat.le_of_ble_eq_true rfl⟩) hS (fun q _ h => hFc q h) hFc (fun u t H1 locs ht hvm hw_122 hB hz1 hk1 hS => ?_)
                obtain ⟨u_123, u_124⟩ := u
                obtain ⟨hf_125, hP1, hD1⟩ := hB
                rw [ht] at hP1
                try dsimp only at hw_122
                obtain ⟨hP, hD⟩ := va_join (wr := []) (w1 := [(h0, .inr (12, mG q i_taped i_size i_sort i_what i_at i_end i_worth i_faultKind i_faultPlace i_got i_worked (nI dl) i_isPlanned i_bestDone i_bestCost)), (q 51, .inl (E.2.1 0, 512, .inl u_123)), (q 52, .inl (E.2.1 0, 512, .inl u_124)), (q 49, .inl (E.2.1 0, 100, .inl a_flights)), (q 42, .inl (E.2.1 0, 7, .inl a_dFrom)), (q 43, .inl (E.2.1 0, 7, .inl a_dTo)), (q 44, .inl (E.2.1 0, 7, .inl a_dDays)), (q 45, .inl (E.2.1 0, 7, .inl a_dFirst)), (q 46, .inl (E.2.1 0, 7, .inl a_dLast))]) hP hD [0, 1, 2, 3, 4, 5, 6, 7, 8] [] rfl rfl (by decide) (by decide) hk1 hFc hP1 hD1
                generalize H1 = H at hP hS ⊢
                have hP : va_P E.1 vwCl [(h0, .inr (12, mG q i_taped i_size i_sort i_what i_at i_end i_worth i_faultKind i_faultPlace i_got i_worked (nI dl) i_isPlanned i_bestDone i_bestCost)), (q 51, .inl (E.2.1 0, 512, .inl u_123)), (q 52, .inl (E.2.1 0, 512, .inl u_124)), (q 49, .inl (E.2.1 0, 100, .inl a_flights)), (q 42, .inl (E.2.1 0, 7, .inl a_dFrom)), (q 43, .inl (E.2.1 0, 7, .inl a_dTo)), (q 44, .inl (E.2.1 0, 7, .inl a_dDays)), (q 45, .inl (E.2.1 0, 7, .inl a_dFirst)), (q 46, .inl (E.2.1 0, 7, .inl a_dLast))] H := hP
                have hD : va_D A [(h0, .inr (12, mG q i_taped i_size i_sort i_what i_at i_end i_worth i_faultKind i_faultPlace i_got i_worked (nI dl) i_isPlanned i_bestDone i_bestCost)), (q 51, .inl (E.2.1 0, 512, .inl u_123)), (q 52, .inl (E.2.1 0, 512, .inl u_124)), (q 49, .inl (E.2.1 0, 100, .inl a_flights)), (q 42, .inl (E.2.1 0, 7, .inl a_dFrom)), (q 43, .inl (E.2.1 0, 7, .inl a_dTo)), (q 44, .inl (E.2.1 0, 7, .inl a_dDays)), (q 45, .inl (E.2.1 0, 7, .inl a_dFirst)), (q 46, .inl (E.2.1 0, 7, .inl a_dLast))] := hD
                refine lv_iinc (v := (nI (k + 1))) (lv' := [(8, .int (nI (k + 1))), (10, .int x_72), (9, .int x_72), (0, .ref h0), (1, .int (nI cr)), (2, .int (nI po)), (3, .int da), (4, .int (nI se_)), (5, .int (nI ro)), (6, .int co_)]) hx hb dX12_tries_240 hl (k := 9) rfl (show nI k + 1 = nI (k + 1) from nI_1 k) (by decide) rfl (fun ls hl => ?_)
                refine lv_goto (tgt := 78) hx hb dX12_tries_243 (by decide) ?_
                exact ih (k + 1) u_123 u_124 _ _ _ (by omega) (by omega) hf_125 (hP.sub [0, 1, 2, 3, 4, 5, 6, 7, 8] rfl) (hD.sub [0, 1, 2, 3, 4, 5, 6, 7, 8] (by decide) rfl) hS (lv_sub hl [3, 4, 5, 6, 7, 8, 9, 0] rfl)
              · refine lv_goto (tgt := 240) hx hb dX12_tries_180 (by decide) ?_
                refine lv_iinc (v := (nI (k + 1))) (lv' := [(8, .int (nI (k + 1))), (10, .int x_72), (9, .int x_72), (0, .ref h0), (1, .int (nI cr)), (2, .int (nI po)), (3, .int da), (4, .int (nI se_)), (5, .int (nI ro)), (6, .int co_)]) hx hb dX12_tries_240 hl (k := 9) rfl (show nI k + 1 = nI (k + 1) from nI_1 k) (by decide) rfl (fun ls hl => ?_)
                refine lv_goto (tgt := 78) hx hb dX12_tries_243 (by decide) ?_
                exact ih (k + 1) a_least a_order _ _ _ (by omega) (by omega) hI_order (hP.sub [0, 1, 2, 3, 4, 5, 6, 7, 8] rfl) (hD.sub [0, 1, 2, 3, 4, 5, 6, 7, 8] (by decide) rfl) hS (lv_sub hl [3, 4, 5, 6, 7, 8, 9, 0] rfl)
        · refine lv_goto (tgt := 240) hx hb dX12_tries_119 (by decide) ?_
          refine lv_iinc (v := (nI (k + 1))) (lv' := [(8, .int (nI (k + 1))), (0, .ref h0), (1, .int (nI cr)), (2, .int (nI po)), (3, .int da), (4, .int (nI se_)), (5, .int (nI ro)), (6, .int co_)]) hx hb dX12_tries_240 hl (k := 7) rfl (show nI k + 1 = nI (k + 1) from nI_1 k) (by decide) rfl (fun ls hl => ?_)
          refine lv_goto (tgt := 78) hx hb dX12_tries_243 (by decide) ?_
          exact ih (k + 1) a_least a_order _ _ _ (by omega) (by omega) hI_order (hP.sub [0, 1, 2, 3, 4, 5, 6, 7, 8] rfl) (hD.sub [0, 1, 2, 3, 4, 5, 6, 7, 8] (by decide) rfl) hS (lv_sub hl [1, 2, 3, 4, 5, 6, 7, 0] rfl)
set_option maxHeartbeats 4000000 in
set_option maxRecDepth 100000 in
theorem c_X12_tries6 (l : Launch) (E : vE) (h0 : Nat) (q : Nat → Nat) (i_taped : Int32) (i_size : Int32) (i_sort : Int32) (i_what : Int32) (i_at : Int32) (i_end : Int32) (i_worth : Int32) (i_faultKind : Int32) (i_faultPlace : Int32) (i_got : Int32) (i_worked : Int32) (i_isPlanned : Int32) (i_bestDone : Int32) (i_bestCost : Int32) (dl : Nat) (cr : Nat) (po : Nat) (se_ : Nat) (ro : Nat) (a_least : Nat → Int32) (a_order : Nat → Int32) (a_flights : Nat → Int32) (a_dFrom : Nat → Int32) (a_dTo : Nat → Int32) (a_dDays : Nat → Int32) (a_dFirst : Nat → Int32) (a_dLast : Nat → Int32) (da : Int32) (co_ : Int32) (sz : Nat) (hcr : cr < 4) (hpo : po ≤ 9) (hse : se_ < 128) (hdl : dl ≤ 7) (hbc : bc7 se_ = 6) (hro : dg ro 6) (hI_order : ∀ k : Nat, k < 512 → digOK (a_order k)) (hI_dFrom : ∀ k : Nat, k < 7 → inR (a_dFrom k) 0 9 = true) (hI_dTo : ∀ k : Nat, k < 7 → inR (a_dTo k) 0 9 = true) : Met l yX12_tries wsX12_tries ({ frames := 1, cells := 0, slots := 0, locals := 30 }) (pcW E [.ref h0, .int (nI cr), .int (nI po), .int da, .int (nI se_), .int (nI ro), .int co_] sz [(h0, .inr (12, mG q i_taped i_size i_sort i_what i_at i_end i_worth i_faultKind i_faultPlace i_got i_worked (nI dl) i_isPlanned i_bestDone i_bestCost)), (q 51, .inl (E.2.1 0, 512, .inl a_least)), (q 52, .inl (E.2.1 0, 512, .inl a_order)), (q 49, .inl (E.2.1 0, 100, .inl a_flights)), (q 42, .inl (E.2.1 0, 7, .inl a_dFrom)), (q 43, .inl (E.2.1 0, 7, .inl a_dTo)), (q 44, .inl (E.2.1 0, 7, .inl a_dDays)), (q 45, .inl (E.2.1 0, 7, .inl a_dFirst)), (q 46, .inl (E.2.1 0, 7, .inl a_dLast))]) (va_Qv (fun (u : (Nat → Int32) × (Nat → Int32)) => match u with | (b_least, b_order) => True) (fun (u : (Nat → Int32) × (Nat → Int32)) (t : State) => match u with | (b_least, b_order) => (∀ k : Nat, k < 512 → digOK (b_order k)) ∧ wB E (va_A [(h0, .inr (12, mG q i_taped i_size i_sort i_what i_at i_end i_worth i_faultKind i_faultPlace i_got i_worked (nI dl) i_isPlanned i_bestDone i_bestCost)), (q 51, .inl (E.2.1 0, 512, .inl a_least)), (q 52, .inl (E.2.1 0, 512, .inl a_order)), (q 49, .inl (E.2.1 0, 100, .inl a_flights)), (q 42, .inl (E.2.1 0, 7, .inl a_dFrom)), (q 43, .inl (E.2.1 0, 7, .inl a_dTo)), (q 44, .inl (E.2.1 0, 7, .inl a_dDays)), (q 45, .inl (E.2.1 0, 7, .inl a_dFirst)), (q 46, .inl (E.2.1 0, 7, .inl a_dLast))] sz) [(h0, .inr (12, mG q i_taped i_size i_sort i_what i_at i_end i_worth i_faultKind i_faultPlace i_got i_worked (nI dl) i_isPlanned i_bestDone i_bestCost)), (q 51, .inl (E.2.1 0, 512, .inl b_least)), (q 52, .inl (E.2.1 0, 512, .inl b_order)), (q 49, .inl (E.2.1 0, 100, .inl a_flights)), (q 42, .inl (E.2.1 0, 7, .inl a_dFrom)), (q 43, .inl (E.2.1 0, 7, .inl a_dTo)), (q 44, .inl (E.2.1 0, 7, .inl a_dDays)), (q 45, .inl (E.2.1 0, 7, .inl a_dFirst)), (q 46, .inl (E.2.1 0, 7, .inl a_dLast))] t) (va_A [(h0, .inr (12, mG q i_taped i_size i_sort i_what i_at i_end i_worth i_faultKind i_faultPlace i_got i_worked (nI dl) i_isPlanned i_bestDone i_bestCost)), (q 51, .inl (E.2.1 0, 512, .inl a_least)), (q 52, .inl (E.2.1 0, 512, .inl a_order)), (q 49, .inl (E.2.1 0, 100, .inl a_flights)), (q 42, .inl (E.2.1 0, 7, .inl a_dFrom)), (q 43, .inl (E.2.1 0, 7, .inl a_dTo)), (q 44, .inl (E.2.1 0, 7, .inl a_dDays)), (q 45, .inl (E.2.1 0, 7, .inl a_dFirst)), (q 46, .inl (E.2.1 0, 7, .inl a_dLast))] sz)) 0 0 (va_A [(h0, .inr (12, mG q i_taped i_size i_sort i_what i_at i_end i_worth i_faultKind i_faultPlace i_got i_worked (nI dl) i_isPlanned i_bestDone i_bestCost)), (q 51, .inl (E.2.1 0, 512, .inl a_least)), (q 52, .inl (E.2.1 0, 512, .inl a_order)), (q 49, .inl (E.2.1 0, 100, .inl a_flights)), (q 42, .inl (E.2.1 0, 7, .inl a_dFrom)), (q 43, .inl (E.2.1 0, 7, .inl a_dTo)), (q 44, .inl (E.2.1 0, 7, .inl a_dDays)), (q 45, .inl (E.2.1 0, 7, .inl a_dFirst)), (q 46, .inl (E.2.1 0, 7, .inl a_dLast))] sz) := by
  refine Met.ofW (cc := cX12_tries) (maxL := 11) (ret := none) (by decide) rfl ?_
  intro p e s m args below meth c s₁ B hml hv
  obtain ⟨rfl, hsz, hP, hkn, hD0, hst⟩ := hv
  have hx := B.exec
  have hb := B.bytes
  have hr := B.returns
  have hts := atoms_spec (ws := wsX12_tries) B.pre
  have hown : s.vm.findClass RX12 = some m.cls := findClass_of_methodNamed B.named
  have hlocks := B.notSynchronized
  subst hsz
  have hD := hD0.self (sz := s.heap.size)
  have hK := hkn.1
  have hAO := hkn.2.2.1
  generalize hAe : va_A [(h0, .inr (12, mG q i_taped i_size i_sort i_what i_at i_end i_worth i_faultKind i_faultPlace i_got i_worked (nI dl) i_isPlanned i_bestDone i_bestCost)), (q 51, .inl (E.2.1 0, 512, .inl a_least)), (q 52, .inl (E.2.1 0, 512, .inl a_order)), (q 49, .inl (E.2.1 0, 100, .inl a_flights)), (q 42, .inl (E.2.1 0, 7, .inl a_dFrom)), (q 43, .inl (E.2.1 0, 7, .inl a_dTo)), (q 44, .inl (E.2.1 0, 7, .inl a_dDays)), (q 45, .inl (E.2.1 0, 7, .inl a_dFirst)), (q 46, .inl (E.2.1 0, 7, .inl a_dLast))] s.heap.size = A at hD hst ⊢
  have hA : ∀ q : Nat, s.heap.size ≤ q → A q := fun q h => by rw [← hAe]; exact Or.inr h
  have hS : va_S A s.heap s.heap [] := va_S.rf
  have hP : va_P E.1 vwCl [(h0, .inr (12, mG q i_taped i_size i_sort i_what i_at i_end i_worth i_faultKind i_faultPlace i_got i_worked (nI dl) i_isPlanned i_bestDone i_bestCost)), (q 51, .inl (E.2.1 0, 512, .inl a_least)), (q 52, .inl (E.2.1 0, 512, .inl a_order)), (q 49, .inl (E.2.1 0, 100, .inl a_flights)), (q 42, .inl (E.2.1 0, 7, .inl a_dFrom)), (q 43, .inl (E.2.1 0, 7, .inl a_dTo)), (q 44, .inl (E.2.1 0, 7, .inl a_dDays)), (q 45, .inl (E.2.1 0, 7, .inl a_dFirst)), (q 46, .inl (E.2.1 0, 7, .inl a_dLast))] s.heap := hP
  have hl := lv_entry ([.ref h0, .int (nI cr), .int (nI po), .int da, .int (nI se_), .int (nI ro), .int co_]) (n := 11) (Nat.le_of_ble_eq_true rfl)
  rw [lg_entry_eq]
  generalize (lg_sl ([.ref h0, .int (nI cr), .int (nI po), .int da, .int (nI se_), .int (nI ro), .int co_]) ++ List.replicate (11 - (lg_sl ([.ref h0, .int (nI cr), .int (nI po), .int da, .int (nI se_), .int (nI ro), .int co_])).length) Slot.unset).toArray = ls at hl ⊢
  have hl : lv_has ls 11 [(0, .ref h0), (1, .int (nI cr)), (2, .int (nI po)), (3, .int da), (4, .int (nI se_)), (5, .int (nI ro)), (6, .int co_)] := hl
  have fl106 := hts (.fieldLink RX12 106 "BoatsHomeModel" "dFrom" "[I") (by first | exact List.mem_of_getElem? (i := 5) rfl | decide +kernel)
  have fl109 := hts (.fieldLink RX12 109 "BoatsHomeModel" "dTo" "[I") (by first | exact List.mem_of_getElem? (i := 8) rfl | decide +kernel)
  have fl112 := hts (.fieldLink RX12 112 "BoatsHomeModel" "dDays" "[I") (by first | exact List.mem_of_getElem? (i := 9) rfl | decide +kernel)
  have fl115 := hts (.fieldLink RX12 115 "BoatsHomeModel" "dFirst" "[I") (by first | exact List.mem_of_getElem? (i := 6) rfl | decide +kernel)
  have fl118 := hts (.fieldLink RX12 118 "BoatsHomeModel" "dLast" "[I") (by first | exact List.mem_of_getElem? (i := 7) rfl | decide +kernel)
  have fl127 := hts (.fieldLink RX12 127 "BoatsHomeModel" "flights" "[I") (by first | exact List.mem_of_getElem? (i := 4) rfl | decide +kernel)
  have fl130 := hts (.fieldLink RX12 130 "BoatsHomeModel" "least" "[I") (by first | exact List.mem_of_getElem? (i := 1) rfl | decide +kernel)
  have fl133 := hts (.fieldLink RX12 133 "BoatsHomeModel" "order" "[I") (by first | exact List.mem_of_getElem? (i := 2) rfl | decide +kernel)
  have fl289 := hts (.fieldLink RX12 289 "BoatsHomeModel" "deliveries" "I") (by first | exact List.mem_of_getElem? (i := 3) rfl | decide +kernel)
  have inX12 : ∀ w ∈ u_ws RX12 TX12 59, w ∈ wsX12_tries := by first | exact fun w h9 => (List.mem_cons_of_mem _ (List.mem_append_right _ h9)) | decide +kernel
  refine lv_sipush (v := 128) hx hb dX12_tries_0 (by decide) ?_
  refine lv_iload_n hx hb dX12_tries_3 rfl (lv_at hl 1 rfl) ?_
  refine lv_imul hx hb dX12_tries_4 ?_
  refine lv_topi (fun x_1 ex_1 => ?_)
  obtain rfl : x_1 = nI (128 * cr) := ex_1.trans (pk_mul 128 cr)
  refine lv_iload hx hb dX12_tries_5 (lv_at hl 4 rfl) ?_
  refine lv_iadd hx hb dX12_tries_7 ?_
  refine lv_topi (fun x_2 ex_2 => ?_)
  obtain rfl : x_2 = nI ((128 * cr) + se_) := ex_2.trans (nI_add (128 * cr) se_)
  refine lv_istore (lv' := [(7, .int (nI ((128 * cr) + se_))), (0, .ref h0), (1, .int (nI cr)), (2, .int (nI po)), (3, .int da), (4, .int (nI se_)), (5, .int (nI ro)), (6, .int co_)]) hx hb dX12_tries_8 hl (by decide) rfl (fun ls hl => ?_)
  refine lv_aload_n hx hb dX12_tries_10 rfl (lv_at hl 1 rfl) ?_
  refine va_get (D := E.1) (ci := 12) (v := .ref (q 51)) (C := RX12) (T := TX12) (N := 59) hx hb hts inX12 hown hK hP 0 rfl rfl 51 (by decide) fl130 (fun _ h9 => h9) rfl dX12_tries_11 ?_
  refine lv_iload hx hb dX12_tries_14 (lv_at hl 0 rfl) ?_
  have hi_3 : vp_in (nI ((128 * cr) + se_)) 512 := vp_in_nI (by omega) (by decide)
  refine va_iald hx hb hK hP 1 0 rfl rfl hi_3 dX12_tries_16 ?_
  refine lv_topi (fun x_4 ex_4 => ?_)
  refine lv_iconst (v := (-1)) hx hb dX12_tries_17 (by decide) ?_
  refine lv_icmp_eq (tgt := 57) hx hb dX12_tries_18 (by decide) (fun c_5 => ?_) (fun c_5 => ?_)
  · refine lv_aload_n hx hb dX12_tries_57 rfl (lv_at hl 1 rfl) ?_
    refine va_get (D := E.1) (ci := 12) (v := .ref (q 51)) (C := RX12) (T := TX12) (N := 59) hx hb hts inX12 hown hK hP 0 rfl rfl 51 (by decide) fl130 (fun _ h9 => h9) rfl dX12_tries_58 ?_
    refine lv_iload hx hb dX12_tries_61 (lv_at hl 0 rfl) ?_
    refine lv_iload hx hb dX12_tries_63 (lv_at hl 7 rfl) ?_
    refine va_iast hx hb hK hP hD hS 1 0 rfl rfl hi_3 dX12_tries_65 (fun H locs hP hD hS => ?_)
    have hP : va_P E.1 vwCl [(h0, .inr (12, mG q i_taped i_size i_sort i_what i_at i_end i_worth i_faultKind i_faultPlace i_got i_worked (nI dl) i_isPlanned i_bestDone i_bestCost)), (q 51, .inl (E.2.1 0, 512, .inl (upd a_least (nI ((128 * cr) + se_)).toNatClampNeg co_))), (q 52, .inl (E.2.1 0, 512, .inl a_order)), (q 49, .inl (E.2.1 0, 100, .inl a_flights)), (q 42, .inl (E.2.1 0, 7, .inl a_dFrom)), (q 43, .inl (E.2.1 0, 7, .inl a_dTo)), (q 44, .inl (E.2.1 0, 7, .inl a_dDays)), (q 45, .inl (E.2.1 0, 7, .inl a_dFirst)), (q 46, .inl (E.2.1 0, 7, .inl a_dLast))] H := hP
    have hD : va_D A [(h0, .inr (12, mG q i_taped i_size i_sort i_what i_at i_end i_worth i_faultKind i_faultPlace i_got i_worked (nI dl) i_isPlanned i_bestDone i_bestCost)), (q 51, .inl (E.2.1 0, 512, .inl (upd a_least (nI ((128 * cr) + se_)).toNatClampNeg co_))), (q 52, .inl (E.2.1 0, 512, .inl a_order)), (q 49, .inl (E.2.1 0, 100, .inl a_flights)), (q 42, .inl (E.2.1 0, 7, .inl a_dFrom)), (q 43, .inl (E.2.1 0, 7, .inl a_dTo)), (q 44, .inl (E.2.1 0, 7, .inl a_dDays)), (q 45, .inl (E.2.1 0, 7, .inl a_dFirst)), (q 46, .inl (E.2.1 0, 7, .inl a_dLast))] := hD
    obtain ⟨f_6, ef_6⟩ : ∃ g : Nat → Int32, g = upd a_least (nI ((128 * cr) + se_)).toNatClampNeg co_ := ⟨_, rfl⟩
    rw [← ef_6] at hP hD
    refine lv_aload_n hx hb dX12_tries_66 rfl (lv_at hl 1 rfl) ?_
    refine va_get (D := E.1) (ci := 12) (v := .ref (q 52)) (C := RX12) (T := TX12) (N := 59) hx hb hts inX12 hown hK hP 0 rfl rfl 52 (by decide) fl133 (fun _ h9 => h9) rfl dX12_tries_67 ?_
    refine lv_iload hx hb dX12_tries_70 (lv_at hl 0 rfl) ?_
    refine lv_iload hx hb dX12_tries_72 (lv_at hl 6 rfl) ?_
    refine va_iast hx hb hK hP hD hS 2 0 rfl rfl hi_3 dX12_tries_74 (fun H locs hP hD hS => ?_)
    have hP : va_P E.1 vwCl [(h0, .inr (12, mG q i_taped i_size i_sort i_what i_at i_end i_worth i_faultKind i_faultPlace i_got i_worked (nI dl) i_isPlanned i_bestDone i_bestCost)), (q 51, .inl (E.2.1 0, 512, .inl f_6)), (q 52, .inl (E.2.1 0, 512, .inl (upd a_order (nI ((128 * cr) + se_)).toNatClampNeg (nI ro)))), (q 49, .inl (E.2.1 0, 100, .inl a_flights)), (q 42, .inl (E.2.1 0, 7, .inl a_dFrom)), (q 43, .inl (E.2.1 0, 7, .inl a_dTo)), (q 44, .inl (E.2.1 0, 7, .inl a_dDays)), (q 45, .inl (E.2.1 0, 7, .inl a_dFirst)), (q 46, .inl (E.2.1 0, 7, .inl a_dLast))] H := hP
    have hD : va_D A [(h0, .inr (12, mG q i_taped i_size i_sort i_what i_at i_end i_worth i_faultKind i_faultPlace i_got i_worked (nI dl) i_isPlanned i_bestDone i_bestCost)), (q 51, .inl (E.2.1 0, 512, .inl f_6)), (q 52, .inl (E.2.1 0, 512, .inl (upd a_order (nI ((128 * cr) + se_)).toNatClampNeg (nI ro)))), (q 49, .inl (E.2.1 0, 100, .inl a_flights)), (q 42, .inl (E.2.1 0, 7, .inl a_dFrom)), (q 43, .inl (E.2.1 0, 7, .inl a_dTo)), (q 44, .inl (E.2.1 0, 7, .inl a_dDays)), (q 45, .inl (E.2.1 0, 7, .inl a_dFirst)), (q 46, .inl (E.2.1 0, 7, .inl a_dLast))] := hD
    obtain ⟨f_7, ef_7⟩ : ∃ g : Nat → Int32, g = upd a_order (nI ((128 * cr) + se_)).toNatClampNeg (nI ro) := ⟨_, rfl⟩
    rw [← ef_7] at hP hD
    have hI_8 : ∀ k : Nat, k < 512 → digOK (f_7 k) := by rw [ef_7]; exact all_upd (P := fun z => digOK z) hI_order (dg_OK hro (by decide))
    refine lv_iconst (v := 0) hx hb dX12_tries_75 (by decide) ?_
    refine lv_istore (lv' := [(8, .int 0), (7, .int (nI ((128 * cr) + se_))), (0, .ref h0), (1, .int (nI cr)), (2, .int (nI po)), (3, .int da), (4, .int (nI se_)), (5, .int (nI ro)), (6, .int co_)]) hx hb dX12_tries_76 hl (by decide) rfl (fun ls hl => ?_)
    have hPl := hP.sub (ws' := [(h0, .inr (12, mG q i_taped i_size i_sort i_what i_at i_end i_worth i_faultKind i_faultPlace i_got i_worked (nI dl) i_isPlanned i_bestDone i_bestCost)), (q 51, .inl (E.2.1 0, 512, .inl f_6)), (q 52, .inl (E.2.1 0, 512, .inl f_7)), (q 49, .inl (E.2.1 0, 100, .inl a_flights)), (q 42, .inl (E.2.1 0, 7, .inl a_dFrom)), (q 43, .inl (E.2.1 0, 7, .inl a_dTo)), (q 44, .inl (E.2.1 0, 7, .inl a_dDays)), (q 45, .inl (E.2.1 0, 7, .inl a_dFirst)), (q 46, .inl (E.2.1 0, 7, .inl a_dLast))]) [0, 1, 2, 3, 4, 5, 6, 7, 8] rfl
    have hDl := hD.sub (ws' := [(h0, .inr (12, mG q i_taped i_size i_sort i_what i_at i_end i_worth i_faultKind i_faultPlace i_got i_worked (nI dl) i_isPlanned i_bestDone i_bestCost)), (q 51, .inl (E.2.1 0, 512, .inl f_6)), (q 52, .inl (E.2.1 0, 512, .inl f_7)), (q 49, .inl (E.2.1 0, 100, .inl a_flights)), (q 42, .inl (E.2.1 0, 7, .inl a_dFrom)), (q 43, .inl (E.2.1 0, 7, .inl a_dTo)), (q 44, .inl (E.2.1 0, 7, .inl a_dDays)), (q 45, .inl (E.2.1 0, 7, .inl a_dFirst)), (q 46, .inl (E.2.1 0, 7, .inl a_dLast))]) [0, 1, 2, 3, 4, 5, 6, 7, 8] (by decide) rfl
    refine lm_tries6 E h0 q i_taped i_size i_sort i_what i_at i_end i_worth i_faultKind i_faultPlace i_got i_worked i_isPlanned i_bestDone i_bestCost dl cr po se_ ro da co_ a_flights a_dFrom a_dTo a_dDays a_dFirst a_dLast hx hb hml hown hts hkn hst hA (by omega) (by omega) (by omega) (by omega) hbc hro hI_dFrom hI_dTo (fun n_9 n_10 H locs ls hI_order hP hD hS hl => ?_) 9 0 f_6 f_7 _ _ _ (by omega) (by omega) hI_8 hPl hDl hS (lv_sub hl [2, 3, 4, 5, 6, 7, 8, 0] rfl)
    have hP : va_P E.1 vwCl [(h0, .inr (12, mG q i_taped i_size i_sort i_what i_at i_end i_worth i_faultKind i_faultPlace i_got i_worked (nI dl) i_isPlanned i_bestDone i_bestCost)), (q 51, .inl (E.2.1 0, 512, .inl n_9)), (q 52, .inl (E.2.1 0, 512, .inl n_10)), (q 49, .inl (E.2.1 0, 100, .inl a_flights)), (q 42, .inl (E.2.1 0, 7, .inl a_dFrom)), (q 43, .inl (E.2.1 0, 7, .inl a_dTo)), (q 44, .inl (E.2.1 0, 7, .inl a_dDays)), (q 45, .inl (E.2.1 0, 7, .inl a_dFirst)), (q 46, .inl (E.2.1 0, 7, .inl a_dLast))] H := hP
    have hD : va_D A [(h0, .inr (12, mG q i_taped i_size i_sort i_what i_at i_end i_worth i_faultKind i_faultPlace i_got i_worked (nI dl) i_isPlanned i_bestDone i_bestCost)), (q 51, .inl (E.2.1 0, 512, .inl n_9)), (q 52, .inl (E.2.1 0, 512, .inl n_10)), (q 49, .inl (E.2.1 0, 100, .inl a_flights)), (q 42, .inl (E.2.1 0, 7, .inl a_dFrom)), (q 43, .inl (E.2.1 0, 7, .inl a_dTo)), (q 44, .inl (E.2.1 0, 7, .inl a_dDays)), (q 45, .inl (E.2.1 0, 7, .inl a_dFirst)), (q 46, .inl (E.2.1 0, 7, .inl a_dLast))] := hD
    have hP9 := hP.sub (ws' := [(h0, .inr (12, mG q i_taped i_size i_sort i_what i_at i_end i_worth i_faultKind i_faultPlace i_got i_worked (nI dl) i_isPlanned i_bestDone i_bestCost)), (q 51, .inl (E.2.1 0, 512, .inl n_9)), (q 52, .inl (E.2.1 0, 512, .inl n_10)), (q 49, .inl (E.2.1 0, 100, .inl a_flights)), (q 42, .inl (E.2.1 0, 7, .inl a_dFrom)), (q 43, .inl (E.2.1 0, 7, .inl a_dTo)), (q 44, .inl (E.2.1 0, 7, .inl a_dDays)), (q 45, .inl (E.2.1 0, 7, .inl a_dFirst)), (q 46, .inl (E.2.1 0, 7, .inl a_dLast))]) [0, 1, 2, 3, 4, 5, 6, 7, 8] rfl
    have hD9 := hD.sub (ws' := [(h0, .inr (12, mG q i_taped i_size i_sort i_what i_at i_end i_worth i_faultKind i_faultPlace i_got i_worked (nI dl) i_isPlanned i_bestDone i_bestCost)), (q 51, .inl (E.2.1 0, 512, .inl n_9)), (q 52, .inl (E.2.1 0, 512, .inl n_10)), (q 49, .inl (E.2.1 0, 100, .inl a_flights)), (q 42, .inl (E.2.1 0, 7, .inl a_dFrom)), (q 43, .inl (E.2.1 0, 7, .inl a_dTo)), (q 44, .inl (E.2.1 0, 7, .inl a_dDays)), (q 45, .inl (E.2.1 0, 7, .inl a_dFirst)), (q 46, .inl (E.2.1 0, 7, .inl a_dLast))]) [0, 1, 2, 3, 4, 5, 6, 7, 8] (by decide) rfl
    exact W.vret hx hb hr (fun t ht hW => ⟨⟨(n_9, n_10), rfl, trivial, hI_order, by rw [ht]; exact hP9, hD9⟩, hS.F ht⟩) hS.2.2 dX12_tries_246
  · refine lv_iload hx hb dX12_tries_21 (lv_at hl 7 rfl) ?_
    refine lv_aload_n hx hb dX12_tries_23 rfl (lv_at hl 1 rfl) ?_
    refine va_get (D := E.1) (ci := 12) (v := .ref (q 51)) (C := RX12) (T := TX12) (N := 59) hx hb hts inX12 hown hK hP 0 rfl rfl 51 (by decide) fl130 (fun _ h9 => h9) rfl dX12_tries_24 ?_
    refine lv_iload hx hb dX12_tries_27 (lv_at hl 0 rfl) ?_
    refine va_iald hx hb hK hP 1 0 rfl rfl hi_3 dX12_tries_29 ?_
    refine lv_topi (fun x_11 ex_11 => ?_)
    refine lv_icmp_lt (tgt := 57) hx hb dX12_tries_30 (by decide) (fun c_12 => ?_) (fun c_12 => ?_)
    · refine lv_aload_n hx hb dX12_tries_57 rfl (lv_at hl 1 rfl) ?_
      refine va_get (D := E.1) (ci := 12) (v := .ref (q 51)) (C := RX12) (T := TX12) (N := 59) hx hb hts inX12 hown hK hP 0 rfl rfl 51 (by decide) fl130 (fun _ h9 => h9) rfl dX12_tries_58 ?_
      refine lv_iload hx hb dX12_tries_61 (lv_at hl 0 rfl) ?_
      refine lv_iload hx hb dX12_tries_63 (lv_at hl 7 rfl) ?_
      refine va_iast hx hb hK hP hD hS 1 0 rfl rfl hi_3 dX12_tries_65 (fun H locs hP hD hS => ?_)
      have hP : va_P E.1 vwCl [(h0, .inr (12, mG q i_taped i_size i_sort i_what i_at i_end i_worth i_faultKind i_faultPlace i_got i_worked (nI dl) i_isPlanned i_bestDone i_bestCost)), (q 51, .inl (E.2.1 0, 512, .inl (upd a_least (nI ((128 * cr) + se_)).toNatClampNeg co_))), (q 52, .inl (E.2.1 0, 512, .inl a_order)), (q 49, .inl (E.2.1 0, 100, .inl a_flights)), (q 42, .inl (E.2.1 0, 7, .inl a_dFrom)), (q 43, .inl (E.2.1 0, 7, .inl a_dTo)), (q 44, .inl (E.2.1 0, 7, .inl a_dDays)), (q 45, .inl (E.2.1 0, 7, .inl a_dFirst)), (q 46, .inl (E.2.1 0, 7, .inl a_dLast))] H := hP
      have hD : va_D A [(h0, .inr (12, mG q i_taped i_size i_sort i_what i_at i_end i_worth i_faultKind i_faultPlace i_got i_worked (nI dl) i_isPlanned i_bestDone i_bestCost)), (q 51, .inl (E.2.1 0, 512, .inl (upd a_least (nI ((128 * cr) + se_)).toNatClampNeg co_))), (q 52, .inl (E.2.1 0, 512, .inl a_order)), (q 49, .inl (E.2.1 0, 100, .inl a_flights)), (q 42, .inl (E.2.1 0, 7, .inl a_dFrom)), (q 43, .inl (E.2.1 0, 7, .inl a_dTo)), (q 44, .inl (E.2.1 0, 7, .inl a_dDays)), (q 45, .inl (E.2.1 0, 7, .inl a_dFirst)), (q 46, .inl (E.2.1 0, 7, .inl a_dLast))] := hD
      obtain ⟨f_13, ef_13⟩ : ∃ g : Nat → Int32, g = upd a_least (nI ((128 * cr) + se_)).toNatClampNeg co_ := ⟨_, rfl⟩
      rw [← ef_13] at hP hD
      refine lv_aload_n hx hb dX12_tries_66 rfl (lv_at hl 1 rfl) ?_
      refine va_get (D := E.1) (ci := 12) (v := .ref (q 52)) (C := RX12) (T := TX12) (N := 59) hx hb hts inX12 hown hK hP 0 rfl rfl 52 (by decide) fl133 (fun _ h9 => h9) rfl dX12_tries_67 ?_
      refine lv_iload hx hb dX12_tries_70 (lv_at hl 0 rfl) ?_
      refine lv_iload hx hb dX12_tries_72 (lv_at hl 6 rfl) ?_
      refine va_iast hx hb hK hP hD hS 2 0 rfl rfl hi_3 dX12_tries_74 (fun H locs hP hD hS => ?_)
      have hP : va_P E.1 vwCl [(h0, .inr (12, mG q i_taped i_size i_sort i_what i_at i_end i_worth i_faultKind i_faultPlace i_got i_worked (nI dl) i_isPlanned i_bestDone i_bestCost)), (q 51, .inl (E.2.1 0, 512, .inl f_13)), (q 52, .inl (E.2.1 0, 512, .inl (upd a_order (nI ((128 * cr) + se_)).toNatClampNeg (nI ro)))), (q 49, .inl (E.2.1 0, 100, .inl a_flights)), (q 42, .inl (E.2.1 0, 7, .inl a_dFrom)), (q 43, .inl (E.2.1 0, 7, .inl a_dTo)), (q 44, .inl (E.2.1 0, 7, .inl a_dDays)), (q 45, .inl (E.2.1 0, 7, .inl a_dFirst)), (q 46, .inl (E.2.1 0, 7, .inl a_dLast))] H := hP
      have hD : va_D A [(h0, .inr (12, mG q i_taped i_size i_sort i_what i_at i_end i_worth i_faultKind i_faultPlace i_got i_worked (nI dl) i_isPlanned i_bestDone i_bestCost)), (q 51, .inl (E.2.1 0, 512, .inl f_13)), (q 52, .inl (E.2.1 0, 512, .inl (upd a_order (nI ((128 * cr) + se_)).toNatClampNeg (nI ro)))), (q 49, .inl (E.2.1 0, 100, .inl a_flights)), (q 42, .inl (E.2.1 0, 7, .inl a_dFrom)), (q 43, .inl (E.2.1 0, 7, .inl a_dTo)), (q 44, .inl (E.2.1 0, 7, .inl a_dDays)), (q 45, .inl (E.2.1 0, 7, .inl a_dFirst)), (q 46, .inl (E.2.1 0, 7, .inl a_dLast))] := hD
      obtain ⟨f_14, ef_14⟩ : ∃ g : Nat → Int32, g = upd a_order (nI ((128 * cr) + se_)).toNatClampNeg (nI ro) := ⟨_, rfl⟩
      rw [← ef_14] at hP hD
      have hI_15 : ∀ k : Nat, k < 512 → digOK (f_14 k) := by rw [ef_14]; exact all_upd (P := fun z => digOK z) hI_order (dg_OK hro (by decide))
      refine lv_iconst (v := 0) hx hb dX12_tries_75 (by decide) ?_
      refine lv_istore (lv' := [(8, .int 0), (7, .int (nI ((128 * cr) + se_))), (0, .ref h0), (1, .int (nI cr)), (2, .int (nI po)), (3, .int da), (4, .int (nI se_)), (5, .int (nI ro)), (6, .int co_)]) hx hb dX12_tries_76 hl (by decide) rfl (fun ls hl => ?_)
      have hPl := hP.sub (ws' := [(h0, .inr (12, mG q i_taped i_size i_sort i_what i_at i_end i_worth i_faultKind i_faultPlace i_got i_worked (nI dl) i_isPlanned i_bestDone i_bestCost)), (q 51, .inl (E.2.1 0, 512, .inl f_13)), (q 52, .inl (E.2.1 0, 512, .inl f_14)), (q 49, .inl (E.2.1 0, 100, .inl a_flights)), (q 42, .inl (E.2.1 0, 7, .inl a_dFrom)), (q 43, .inl (E.2.1 0, 7, .inl a_dTo)), (q 44, .inl (E.2.1 0, 7, .inl a_dDays)), (q 45, .inl (E.2.1 0, 7, .inl a_dFirst)), (q 46, .inl (E.2.1 0, 7, .inl a_dLast))]) [0, 1, 2, 3, 4, 5, 6, 7, 8] rfl
      have hDl := hD.sub (ws' := [(h0, .inr (12, mG q i_taped i_size i_sort i_what i_at i_end i_worth i_faultKind i_faultPlace i_got i_worked (nI dl) i_isPlanned i_bestDone i_bestCost)), (q 51, .inl (E.2.1 0, 512, .inl f_13)), (q 52, .inl (E.2.1 0, 512, .inl f_14)), (q 49, .inl (E.2.1 0, 100, .inl a_flights)), (q 42, .inl (E.2.1 0, 7, .inl a_dFrom)), (q 43, .inl (E.2.1 0, 7, .inl a_dTo)), (q 44, .inl (E.2.1 0, 7, .inl a_dDays)), (q 45, .inl (E.2.1 0, 7, .inl a_dFirst)), (q 46, .inl (E.2.1 0, 7, .inl a_dLast))]) [0, 1, 2, 3, 4, 5, 6, 7, 8] (by decide) rfl
      refine lm_tries6 E h0 q i_taped i_size i_sort i_what i_at i_end i_worth i_faultKind i_faultPlace i_got i_worked i_isPlanned i_bestDone i_bestCost dl cr po se_ ro da co_ a_flights a_dFrom a_dTo a_dDays a_dFirst a_dLast hx hb hml hown hts hkn hst hA (by omega) (by omega) (by omega) (by omega) hbc hro hI_dFrom hI_dTo (fun n_16 n_17 H locs ls hI_order hP hD hS hl => ?_) 9 0 f_13 f_14 _ _ _ (by omega) (by omega) hI_15 hPl hDl hS (lv_sub hl [2, 3, 4, 5, 6, 7, 8, 0] rfl)
      have hP : va_P E.1 vwCl [(h0, .inr (12, mG q i_taped i_size i_sort i_what i_at i_end i_worth i_faultKind i_faultPlace i_got i_worked (nI dl) i_isPlanned i_bestDone i_bestCost)), (q 51, .inl (E.2.1 0, 512, .inl n_16)), (q 52, .inl (E.2.1 0, 512, .inl n_17)), (q 49, .inl (E.2.1 0, 100, .inl a_flights)), (q 42, .inl (E.2.1 0, 7, .inl a_dFrom)), (q 43, .inl (E.2.1 0, 7, .inl a_dTo)), (q 44, .inl (E.2.1 0, 7, .inl a_dDays)), (q 45, .inl (E.2.1 0, 7, .inl a_dFirst)), (q 46, .inl (E.2.1 0, 7, .inl a_dLast))] H := hP
      have hD : va_D A [(h0, .inr (12, mG q i_taped i_size i_sort i_what i_at i_end i_worth i_faultKind i_faultPlace i_got i_worked (nI dl) i_isPlanned i_bestDone i_bestCost)), (q 51, .inl (E.2.1 0, 512, .inl n_16)), (q 52, .inl (E.2.1 0, 512, .inl n_17)), (q 49, .inl (E.2.1 0, 100, .inl a_flights)), (q 42, .inl (E.2.1 0, 7, .inl a_dFrom)), (q 43, .inl (E.2.1 0, 7, .inl a_dTo)), (q 44, .inl (E.2.1 0, 7, .inl a_dDays)), (q 45, .inl (E.2.1 0, 7, .inl a_dFirst)), (q 46, .inl (E.2.1 0, 7, .inl a_dLast))] := hD
      have hP9 := hP.sub (ws' := [(h0, .inr (12, mG q i_taped i_size i_sort i_what i_at i_end i_worth i_faultKind i_faultPlace i_got i_worked (nI dl) i_isPlanned i_bestDone i_bestCost)), (q 51, .inl (E.2.1 0, 512, .inl n_16)), (q 52, .inl (E.2.1 0, 512, .inl n_17)), (q 49, .inl (E.2.1 0, 100, .inl a_flights)), (q 42, .inl (E.2.1 0, 7, .inl a_dFrom)), (q 43, .inl (E.2.1 0, 7, .inl a_dTo)), (q 44, .inl (E.2.1 0, 7, .inl a_dDays)), (q 45, .inl (E.2.1 0, 7, .inl a_dFirst)), (q 46, .inl (E.2.1 0, 7, .inl a_dLast))]) [0, 1, 2, 3, 4, 5, 6, 7, 8] rfl
      have hD9 := hD.sub (ws' := [(h0, .inr (12, mG q i_taped i_size i_sort i_what i_at i_end i_worth i_faultKind i_faultPlace i_got i_worked (nI dl) i_isPlanned i_bestDone i_bestCost)), (q 51, .inl (E.2.1 0, 512, .inl n_16)), (q 52, .inl (E.2.1 0, 512, .inl n_17)), (q 49, .inl (E.2.1 0, 100, .inl a_flights)), (q 42, .inl (E.2.1 0, 7, .inl a_dFrom)), (q 43, .inl (E.2.1 0, 7, .inl a_dTo)), (q 44, .inl (E.2.1 0, 7, .inl a_dDays)), (q 45, .inl (E.2.1 0, 7, .inl a_dFirst)), (q 46, .inl (E.2.1 0, 7, .inl a_dLast))]) [0, 1, 2, 3, 4, 5, 6, 7, 8] (by decide) rfl
      exact W.vret hx hb hr (fun t ht hW => ⟨⟨(n_16, n_17), rfl, trivial, hI_order, by rw [ht]; exact hP9, hD9⟩, hS.F ht⟩) hS.2.2 dX12_tries_246
    · refine lv_iload hx hb dX12_tries_33 (lv_at hl 7 rfl) ?_
      refine lv_aload_n hx hb dX12_tries_35 rfl (lv_at hl 1 rfl) ?_
      refine va_get (D := E.1) (ci := 12) (v := .ref (q 51)) (C := RX12) (T := TX12) (N := 59) hx hb hts inX12 hown hK hP 0 rfl rfl 51 (by decide) fl130 (fun _ h9 => h9) rfl dX12_tries_36 ?_
      refine lv_iload hx hb dX12_tries_39 (lv_at hl 0 rfl) ?_
      refine va_iald hx hb hK hP 1 0 rfl rfl hi_3 dX12_tries_41 ?_
      refine lv_topi (fun x_18 ex_18 => ?_)
      refine lv_icmp_ne (tgt := 75) hx hb dX12_tries_42 (by decide) (fun c_19 => ?_) (fun c_19 => ?_)
      · refine lv_iconst (v := 0) hx hb dX12_tries_75 (by decide) ?_
        refine lv_istore (lv' := [(8, .int 0), (7, .int (nI ((128 * cr) + se_))), (0, .ref h0), (1, .int (nI cr)), (2, .int (nI po)), (3, .int da), (4, .int (nI se_)), (5, .int (nI ro)), (6, .int co_)]) hx hb dX12_tries_76 hl (by decide) rfl (fun ls hl => ?_)
        have hPl := hP.sub (ws' := [(h0, .inr (12, mG q i_taped i_size i_sort i_what i_at i_end i_worth i_faultKind i_faultPlace i_got i_worked (nI dl) i_isPlanned i_bestDone i_bestCost)), (q 51, .inl (E.2.1 0, 512, .inl a_least)), (q 52, .inl (E.2.1 0, 512, .inl a_order)), (q 49, .inl (E.2.1 0, 100, .inl a_flights)), (q 42, .inl (E.2.1 0, 7, .inl a_dFrom)), (q 43, .inl (E.2.1 0, 7, .inl a_dTo)), (q 44, .inl (E.2.1 0, 7, .inl a_dDays)), (q 45, .inl (E.2.1 0, 7, .inl a_dFirst)), (q 46, .inl (E.2.1 0, 7, .inl a_dLast))]) [0, 1, 2, 3, 4, 5, 6, 7, 8] rfl
        have hDl := hD.sub (ws' := [(h0, .inr (12, mG q i_taped i_size i_sort i_what i_at i_end i_worth i_faultKind i_faultPlace i_got i_worked (nI dl) i_isPlanned i_bestDone i_bestCost)), (q 51, .inl (E.2.1 0, 512, .inl a_least)), (q 52, .inl (E.2.1 0, 512, .inl a_order)), (q 49, .inl (E.2.1 0, 100, .inl a_flights)), (q 42, .inl (E.2.1 0, 7, .inl a_dFrom)), (q 43, .inl (E.2.1 0, 7, .inl a_dTo)), (q 44, .inl (E.2.1 0, 7, .inl a_dDays)), (q 45, .inl (E.2.1 0, 7, .inl a_dFirst)), (q 46, .inl (E.2.1 0, 7, .inl a_dLast))]) [0, 1, 2, 3, 4, 5, 6, 7, 8] (by decide) rfl
        refine lm_tries6 E h0 q i_taped i_size i_sort i_what i_at i_end i_worth i_faultKind i_faultPlace i_got i_worked i_isPlanned i_bestDone i_bestCost dl cr po se_ ro da co_ a_flights a_dFrom a_dTo a_dDays a_dFirst a_dLast hx hb hml hown hts hkn hst hA (by omega) (by omega) (by omega) (by omega) hbc hro hI_dFrom hI_dTo (fun n_20 n_21 H locs ls hI_order hP hD hS hl => ?_) 9 0 a_least a_order _ _ _ (by omega) (by omega) hI_order hPl hDl hS (lv_sub hl [2, 3, 4, 5, 6, 7, 8, 0] rfl)
        have hP : va_P E.1 vwCl [(h0, .inr (12, mG q i_taped i_size i_sort i_what i_at i_end i_worth i_faultKind i_faultPlace i_got i_worked (nI dl) i_isPlanned i_bestDone i_bestCost)), (q 51, .inl (E.2.1 0, 512, .inl n_20)), (q 52, .inl (E.2.1 0, 512, .inl n_21)), (q 49, .inl (E.2.1 0, 100, .inl a_flights)), (q 42, .inl (E.2.1 0, 7, .inl a_dFrom)), (q 43, .inl (E.2.1 0, 7, .inl a_dTo)), (q 44, .inl (E.2.1 0, 7, .inl a_dDays)), (q 45, .inl (E.2.1 0, 7, .inl a_dFirst)), (q 46, .inl (E.2.1 0, 7, .inl a_dLast))] H := hP
        have hD : va_D A [(h0, .inr (12, mG q i_taped i_size i_sort i_what i_at i_end i_worth i_faultKind i_faultPlace i_got i_worked (nI dl) i_isPlanned i_bestDone i_bestCost)), (q 51, .inl (E.2.1 0, 512, .inl n_20)), (q 52, .inl (E.2.1 0, 512, .inl n_21)), (q 49, .inl (E.2.1 0, 100, .inl a_flights)), (q 42, .inl (E.2.1 0, 7, .inl a_dFrom)), (q 43, .inl (E.2.1 0, 7, .inl a_dTo)), (q 44, .inl (E.2.1 0, 7, .inl a_dDays)), (q 45, .inl (E.2.1 0, 7, .inl a_dFirst)), (q 46, .inl (E.2.1 0, 7, .inl a_dLast))] := hD
        have hP9 := hP.sub (ws' := [(h0, .inr (12, mG q i_taped i_size i_sort i_what i_at i_end i_worth i_faultKind i_faultPlace i_got i_worked (nI dl) i_isPlanned i_bestDone i_bestCost)), (q 51, .inl (E.2.1 0, 512, .inl n_20)), (q 52, .inl (E.2.1 0, 512, .inl n_21)), (q 49, .inl (E.2.1 0, 100, .inl a_flights)), (q 42, .inl (E.2.1 0, 7, .inl a_dFrom)), (q 43, .inl (E.2.1 0, 7, .inl a_dTo)), (q 44, .inl (E.2.1 0, 7, .inl a_dDays)), (q 45, .inl (E.2.1 0, 7, .inl a_dFirst)), (q 46, .inl (E.2.1 0, 7, .inl a_dLast))]) [0, 1, 2, 3, 4, 5, 6, 7, 8] rfl
        have hD9 := hD.sub (ws' := [(h0, .inr (12, mG q i_taped i_size i_sort i_what i_at i_end i_worth i_faultKind i_faultPlace i_got i_worked (nI dl) i_isPlanned i_bestDone i_bestCost)), (q 51, .inl (E.2.1 0, 512, .inl n_20)), (q 52, .inl (E.2.1 0, 512, .inl n_21)), (q 49, .inl (E.2.1 0, 100, .inl a_flights)), (q 42, .inl (E.2.1 0, 7, .inl a_dFrom)), (q 43, .inl (E.2.1 0, 7, .inl a_dTo)), (q 44, .inl (E.2.1 0, 7, .inl a_dDays)), (q 45, .inl (E.2.1 0, 7, .inl a_dFirst)), (q 46, .inl (E.2.1 0, 7, .inl a_dLast))]) [0, 1, 2, 3, 4, 5, 6, 7, 8] (by decide) rfl
        exact W.vret hx hb hr (fun t ht hW => ⟨⟨(n_20, n_21), rfl, trivial, hI_order, by rw [ht]; exact hP9, hD9⟩, hS.F ht⟩) hS.2.2 dX12_tries_246
      · refine lv_iload hx hb dX12_tries_45 (lv_at hl 6 rfl) ?_
        refine lv_aload_n hx hb dX12_tries_47 rfl (lv_at hl 1 rfl) ?_
        refine va_get (D := E.1) (ci := 12) (v := .ref (q 52)) (C := RX12) (T := TX12) (N := 59) hx hb hts inX12 hown hK hP 0 rfl rfl 52 (by decide) fl133 (fun _ h9 => h9) rfl dX12_tries_48 ?_
        refine lv_iload hx hb dX12_tries_51 (lv_at hl 0 rfl) ?_
        refine va_iald hx hb hK hP 2 0 rfl rfl hi_3 dX12_tries_53 ?_
        refine lv_topi (fun x_22 ex_22 => ?_)
        have hv_23 : digOK x_22 := by rw [ex_22]; exact hI_order _ (vin_cl hi_3)
        refine lv_icmp_ge (tgt := 75) hx hb dX12_tries_54 (by decide) (fun c_24 => ?_) (fun c_24 => ?_)
        · refine lv_iconst (v := 0) hx hb dX12_tries_75 (by decide) ?_
          refine lv_istore (lv' := [(8, .int 0), (7, .int (nI ((128 * cr) + se_))), (0, .ref h0), (1, .int (nI cr)), (2, .int (nI po)), (3, .int da), (4, .int (nI se_)), (5, .int (nI ro)), (6, .int co_)]) hx hb dX12_tries_76 hl (by decide) rfl (fun ls hl => ?_)
          have hPl := hP.sub (ws' := [(h0, .inr (12, mG q i_taped i_size i_sort i_what i_at i_end i_worth i_faultKind i_faultPlace i_got i_worked (nI dl) i_isPlanned i_bestDone i_bestCost)), (q 51, .inl (E.2.1 0, 512, .inl a_least)), (q 52, .inl (E.2.1 0, 512, .inl a_order)), (q 49, .inl (E.2.1 0, 100, .inl a_flights)), (q 42, .inl (E.2.1 0, 7, .inl a_dFrom)), (q 43, .inl (E.2.1 0, 7, .inl a_dTo)), (q 44, .inl (E.2.1 0, 7, .inl a_dDays)), (q 45, .inl (E.2.1 0, 7, .inl a_dFirst)), (q 46, .inl (E.2.1 0, 7, .inl a_dLast))]) [0, 1, 2, 3, 4, 5, 6, 7, 8] rfl
          have hDl := hD.sub (ws' := [(h0, .inr (12, mG q i_taped i_size i_sort i_what i_at i_end i_worth i_faultKind i_faultPlace i_got i_worked (nI dl) i_isPlanned i_bestDone i_bestCost)), (q 51, .inl (E.2.1 0, 512, .inl a_least)), (q 52, .inl (E.2.1 0, 512, .inl a_order)), (q 49, .inl (E.2.1 0, 100, .inl a_flights)), (q 42, .inl (E.2.1 0, 7, .inl a_dFrom)), (q 43, .inl (E.2.1 0, 7, .inl a_dTo)), (q 44, .inl (E.2.1 0, 7, .inl a_dDays)), (q 45, .inl (E.2.1 0, 7, .inl a_dFirst)), (q 46, .inl (E.2.1 0, 7, .inl a_dLast))]) [0, 1, 2, 3, 4, 5, 6, 7, 8] (by decide) rfl
          refine lm_tries6 E h0 q i_taped i_size i_sort i_what i_at i_end i_worth i_faultKind i_faultPlace i_got i_worked i_isPlanned i_bestDone i_bestCost dl cr po se_ ro da co_ a_flights a_dFrom a_dTo a_dDays a_dFirst a_dLast hx hb hml hown hts hkn hst hA (by omega) (by omega) (by omega) (by omega) hbc hro hI_dFrom hI_dTo (fun n_25 n_26 H locs ls hI_order hP hD hS hl => ?_) 9 0 a_least a_order _ _ _ (by omega) (by omega) hI_order hPl hDl hS (lv_sub hl [2, 3, 4, 5, 6, 7, 8, 0] rfl)
          have hP : va_P E.1 vwCl [(h0, .inr (12, mG q i_taped i_size i_sort i_what i_at i_end i_worth i_faultKind i_faultPlace i_got i_worked (nI dl) i_isPlanned i_bestDone i_bestCost)), (q 51, .inl (E.2.1 0, 512, .inl n_25)), (q 52, .inl (E.2.1 0, 512, .inl n_26)), (q 49, .inl (E.2.1 0, 100, .inl a_flights)), (q 42, .inl (E.2.1 0, 7, .inl a_dFrom)), (q 43, .inl (E.2.1 0, 7, .inl a_dTo)), (q 44, .inl (E.2.1 0, 7, .inl a_dDays)), (q 45, .inl (E.2.1 0, 7, .inl a_dFirst)), (q 46, .inl (E.2.1 0, 7, .inl a_dLast))] H := hP
          have hD : va_D A [(h0, .inr (12, mG q i_taped i_size i_sort i_what i_at i_end i_worth i_faultKind i_faultPlace i_got i_worked (nI dl) i_isPlanned i_bestDone i_bestCost)), (q 51, .inl (E.2.1 0, 512, .inl n_25)), (q 52, .inl (E.2.1 0, 512, .inl n_26)), (q 49, .inl (E.2.1 0, 100, .inl a_flights)), (q 42, .inl (E.2.1 0, 7, .inl a_dFrom)), (q 43, .inl (E.2.1 0, 7, .inl a_dTo)), (q 44, .inl (E.2.1 0, 7, .inl a_dDays)), (q 45, .inl (E.2.1 0, 7, .inl a_dFirst)), (q 46, .inl (E.2.1 0, 7, .inl a_dLast))] := hD
          have hP9 := hP.sub (ws' := [(h0, .inr (12, mG q i_taped i_size i_sort i_what i_at i_end i_worth i_faultKind i_faultPlace i_got i_worked (nI dl) i_isPlanned i_bestDone i_bestCost)), (q 51, .inl (E.2.1 0, 512, .inl n_25)), (q 52, .inl (E.2.1 0, 512, .inl n_26)), (q 49, .inl (E.2.1 0, 100, .inl a_flights)), (q 42, .inl (E.2.1 0, 7, .inl a_dFrom)), (q 43, .inl (E.2.1 0, 7, .inl a_dTo)), (q 44, .inl (E.2.1 0, 7, .inl a_dDays)), (q 45, .inl (E.2.1 0, 7, .inl a_dFirst)), (q 46, .inl (E.2.1 0, 7, .inl a_dLast))]) [0, 1, 2, 3, 4, 5, 6, 7, 8] rfl
          have hD9 := hD.sub (ws' := [(h0, .inr (12, mG q i_taped i_size i_sort i_what i_at i_end i_worth i_faultKind i_faultPlace i_got i_worked (nI dl) i_isPlanned i_bestDone i_bestCost)), (q 51, .inl (E.2.1 0, 512, .inl n_25)), (q 52, .inl (E.2.1 0, 512, .inl n_26)), (q 49, .inl (E.2.1 0, 100, .inl a_flights)), (q 42, .inl (E.2.1 0, 7, .inl a_dFrom)), (q 43, .inl (E.2.1 0, 7, .inl a_dTo)), (q 44, .inl (E.2.1 0, 7, .inl a_dDays)), (q 45, .inl (E.2.1 0, 7, .inl a_dFirst)), (q 46, .inl (E.2.1 0, 7, .inl a_dLast))]) [0, 1, 2, 3, 4, 5, 6, 7, 8] (by decide) rfl
          exact W.vret hx hb hr (fun t ht hW => ⟨⟨(n_25, n_26), rfl, trivial, hI_order, by rw [ht]; exact hP9, hD9⟩, hS.F ht⟩) hS.2.2 dX12_tries_246
        · refine lv_aload_n hx hb dX12_tries_57 rfl (lv_at hl 1 rfl) ?_
          refine va_get (D := E.1) (ci := 12) (v := .ref (q 51)) (C := RX12) (T := TX12) (N := 59) hx hb hts inX12 hown hK hP 0 rfl rfl 51 (by decide) fl130 (fun _ h9 => h9) rfl dX12_tries_58 ?_
          refine lv_iload hx hb dX12_tries_61 (lv_at hl 0 rfl) ?_
          refine lv_iload hx hb dX12_tries_63 (lv_at hl 7 rfl) ?_
          refine va_iast hx hb hK hP hD hS 1 0 rfl rfl hi_3 dX12_tries_65 (fun H locs hP hD hS => ?_)
          have hP : va_P E.1 vwCl [(h0, .inr (12, mG q i_taped i_size i_sort i_what i_at i_end i_worth i_faultKind i_faultPlace i_got i_worked (nI dl) i_isPlanned i_bestDone i_bestCost)), (q 51, .inl (E.2.1 0, 512, .inl (upd a_least (nI ((128 * cr) + se_)).toNatClampNeg co_))), (q 52, .inl (E.2.1 0, 512, .inl a_order)), (q 49, .inl (E.2.1 0, 100, .inl a_flights)), (q 42, .inl (E.2.1 0, 7, .inl a_dFrom)), (q 43, .inl (E.2.1 0, 7, .inl a_dTo)), (q 44, .inl (E.2.1 0, 7, .inl a_dDays)), (q 45, .inl (E.2.1 0, 7, .inl a_dFirst)), (q 46, .inl (E.2.1 0, 7, .inl a_dLast))] H := hP
          have hD : va_D A [(h0, .inr (12, mG q i_taped i_size i_sort i_what i_at i_end i_worth i_faultKind i_faultPlace i_got i_worked (nI dl) i_isPlanned i_bestDone i_bestCost)), (q 51, .inl (E.2.1 0, 512, .inl (upd a_least (nI ((128 * cr) + se_)).toNatClampNeg co_))), (q 52, .inl (E.2.1 0, 512, .inl a_order)), (q 49, .inl (E.2.1 0, 100, .inl a_flights)), (q 42, .inl (E.2.1 0, 7, .inl a_dFrom)), (q 43, .inl (E.2.1 0, 7, .inl a_dTo)), (q 44, .inl (E.2.1 0, 7, .inl a_dDays)), (q 45, .inl (E.2.1 0, 7, .inl a_dFirst)), (q 46, .inl (E.2.1 0, 7, .inl a_dLast))] := hD
          obtain ⟨f_27, ef_27⟩ : ∃ g : Nat → Int32, g = upd a_least (nI ((128 * cr) + se_)).toNatClampNeg co_ := ⟨_, rfl⟩
          rw [← ef_27] at hP hD
          refine lv_aload_n hx hb dX12_tries_66 rfl (lv_at hl 1 rfl) ?_
          refine va_get (D := E.1) (ci := 12) (v := .ref (q 52)) (C := RX12) (T := TX12) (N := 59) hx hb hts inX12 hown hK hP 0 rfl rfl 52 (by decide) fl133 (fun _ h9 => h9) rfl dX12_tries_67 ?_
          refine lv_iload hx hb dX12_tries_70 (lv_at hl 0 rfl) ?_
          refine lv_iload hx hb dX12_tries_72 (lv_at hl 6 rfl) ?_
          refine va_iast hx hb hK hP hD hS 2 0 rfl rfl hi_3 dX12_tries_74 (fun H locs hP hD hS => ?_)
          have hP : va_P E.1 vwCl [(h0, .inr (12, mG q i_taped i_size i_sort i_what i_at i_end i_worth i_faultKind i_faultPlace i_got i_worked (nI dl) i_isPlanned i_bestDone i_bestCost)), (q 51, .inl (E.2.1 0, 512, .inl f_27)), (q 52, .inl (E.2.1 0, 512, .inl (upd a_order (nI ((128 * cr) + se_)).toNatClampNeg (nI ro)))), (q 49, .inl (E.2.1 0, 100, .inl a_flights)), (q 42, .inl (E.2.1 0, 7, .inl a_dFrom)), (q 43, .inl (E.2.1 0, 7, .inl a_dTo)), (q 44, .inl (E.2.1 0, 7, .inl a_dDays)), (q 45, .inl (E.2.1 0, 7, .inl a_dFirst)), (q 46, .inl (E.2.1 0, 7, .inl a_dLast))] H := hP
          have hD : va_D A [(h0, .inr (12, mG q i_taped i_size i_sort i_what i_at i_end i_worth i_faultKind i_faultPlace i_got i_worked (nI dl) i_isPlanned i_bestDone i_bestCost)), (q 51, .inl (E.2.1 0, 512, .inl f_27)), (q 52, .inl (E.2.1 0, 512, .inl (upd a_order (nI ((128 * cr) + se_)).toNatClampNeg (nI ro)))), (q 49, .inl (E.2.1 0, 100, .inl a_flights)), (q 42, .inl (E.2.1 0, 7, .inl a_dFrom)), (q 43, .inl (E.2.1 0, 7, .inl a_dTo)), (q 44, .inl (E.2.1 0, 7, .inl a_dDays)), (q 45, .inl (E.2.1 0, 7, .inl a_dFirst)), (q 46, .inl (E.2.1 0, 7, .inl a_dLast))] := hD
          obtain ⟨f_28, ef_28⟩ : ∃ g : Nat → Int32, g = upd a_order (nI ((128 * cr) + se_)).toNatClampNeg (nI ro) := ⟨_, rfl⟩
          rw [← ef_28] at hP hD
          have hI_29 : ∀ k : Nat, k < 512 → digOK (f_28 k) := by rw [ef_28]; exact all_upd (P := fun z => digOK z) hI_order (dg_OK hro (by decide))
          refine lv_iconst (v := 0) hx hb dX12_tries_75 (by decide) ?_
          refine lv_istore (lv' := [(8, .int 0), (7, .int (nI ((128 * cr) + se_))), (0, .ref h0), (1, .int (nI cr)), (2, .int (nI po)), (3, .int da), (4, .int (nI se_)), (5, .int (nI ro)), (6, .int co_)]) hx hb dX12_tries_76 hl (by decide) rfl (fun ls hl => ?_)
          have hPl := hP.sub (ws' := [(h0, .inr (12, mG q i_taped i_size i_sort i_what i_at i_end i_worth i_faultKind i_faultPlace i_got i_worked (nI dl) i_isPlanned i_bestDone i_bestCost)), (q 51, .inl (E.2.1 0, 512, .inl f_27)), (q 52, .inl (E.2.1 0, 512, .inl f_28)), (q 49, .inl (E.2.1 0, 100, .inl a_flights)), (q 42, .inl (E.2.1 0, 7, .inl a_dFrom)), (q 43, .inl (E.2.1 0, 7, .inl a_dTo)), (q 44, .inl (E.2.1 0, 7, .inl a_dDays)), (q 45, .inl (E.2.1 0, 7, .inl a_dFirst)), (q 46, .inl (E.2.1 0, 7, .inl a_dLast))]) [0, 1, 2, 3, 4, 5, 6, 7, 8] rfl
          have hDl := hD.sub (ws' := [(h0, .inr (12, mG q i_taped i_size i_sort i_what i_at i_end i_worth i_faultKind i_faultPlace i_got i_worked (nI dl) i_isPlanned i_bestDone i_bestCost)), (q 51, .inl (E.2.1 0, 512, .inl f_27)), (q 52, .inl (E.2.1 0, 512, .inl f_28)), (q 49, .inl (E.2.1 0, 100, .inl a_flights)), (q 42, .inl (E.2.1 0, 7, .inl a_dFrom)), (q 43, .inl (E.2.1 0, 7, .inl a_dTo)), (q 44, .inl (E.2.1 0, 7, .inl a_dDays)), (q 45, .inl (E.2.1 0, 7, .inl a_dFirst)), (q 46, .inl (E.2.1 0, 7, .inl a_dLast))]) [0, 1, 2, 3, 4, 5, 6, 7, 8] (by decide) rfl
          refine lm_tries6 E h0 q i_taped i_size i_sort i_what i_at i_end i_worth i_faultKind i_faultPlace i_got i_worked i_isPlanned i_bestDone i_bestCost dl cr po se_ ro da co_ a_flights a_dFrom a_dTo a_dDays a_dFirst a_dLast hx hb hml hown hts hkn hst hA (by omega) (by omega) (by omega) (by omega) hbc hro hI_dFrom hI_dTo (fun n_30 n_31 H locs ls hI_order hP hD hS hl => ?_) 9 0 f_27 f_28 _ _ _ (by omega) (by omega) hI_29 hPl hDl hS (lv_sub hl [2, 3, 4, 5, 6, 7, 8, 0] rfl)
          have hP : va_P E.1 vwCl [(h0, .inr (12, mG q i_taped i_size i_sort i_what i_at i_end i_worth i_faultKind i_faultPlace i_got i_worked (nI dl) i_isPlanned i_bestDone i_bestCost)), (q 51, .inl (E.2.1 0, 512, .inl n_30)), (q 52, .inl (E.2.1 0, 512, .inl n_31)), (q 49, .inl (E.2.1 0, 100, .inl a_flights)), (q 42, .inl (E.2.1 0, 7, .inl a_dFrom)), (q 43, .inl (E.2.1 0, 7, .inl a_dTo)), (q 44, .inl (E.2.1 0, 7, .inl a_dDays)), (q 45, .inl (E.2.1 0, 7, .inl a_dFirst)), (q 46, .inl (E.2.1 0, 7, .inl a_dLast))] H := hP
          have hD : va_D A [(h0, .inr (12, mG q i_taped i_size i_sort i_what i_at i_end i_worth i_faultKind i_faultPlace i_got i_worked (nI dl) i_isPlanned i_bestDone i_bestCost)), (q 51, .inl (E.2.1 0, 512, .inl n_30)), (q 52, .inl (E.2.1 0, 512, .inl n_31)), (q 49, .inl (E.2.1 0, 100, .inl a_flights)), (q 42, .inl (E.2.1 0, 7, .inl a_dFrom)), (q 43, .inl (E.2.1 0, 7, .inl a_dTo)), (q 44, .inl (E.2.1 0, 7, .inl a_dDays)), (q 45, .inl (E.2.1 0, 7, .inl a_dFirst)), (q 46, .inl (E.2.1 0, 7, .inl a_dLast))] := hD
          have hP9 := hP.sub (ws' := [(h0, .inr (12, mG q i_taped i_size i_sort i_what i_at i_end i_worth i_faultKind i_faultPlace i_got i_worked (nI dl) i_isPlanned i_bestDone i_bestCost)), (q 51, .inl (E.2.1 0, 512, .inl n_30)), (q 52, .inl (E.2.1 0, 512, .inl n_31)), (q 49, .inl (E.2.1 0, 100, .inl a_flights)), (q 42, .inl (E.2.1 0, 7, .inl a_dFrom)), (q 43, .inl (E.2.1 0, 7, .inl a_dTo)), (q 44, .inl (E.2.1 0, 7, .inl a_dDays)), (q 45, .inl (E.2.1 0, 7, .inl a_dFirst)), (q 46, .inl (E.2.1 0, 7, .inl a_dLast))]) [0, 1, 2, 3, 4, 5, 6, 7, 8] rfl
          have hD9 := hD.sub (ws' := [(h0, .inr (12, mG q i_taped i_size i_sort i_what i_at i_end i_worth i_faultKind i_faultPlace i_got i_worked (nI dl) i_isPlanned i_bestDone i_bestCost)), (q 51, .inl (E.2.1 0, 512, .inl n_30)), (q 52, .inl (E.2.1 0, 512, .inl n_31)), (q 49, .inl (E.2.1 0, 100, .inl a_flights)), (q 42, .inl (E.2.1 0, 7, .inl a_dFrom)), (q 43, .inl (E.2.1 0, 7, .inl a_dTo)), (q 44, .inl (E.2.1 0, 7, .inl a_dDays)), (q 45, .inl (E.2.1 0, 7, .inl a_dFirst)), (q 46, .inl (E.2.1 0, 7, .inl a_dLast))]) [0, 1, 2, 3, 4, 5, 6, 7, 8] (by decide) rfl
          exact W.vret hx hb hr (fun t ht hW => ⟨⟨(n_30, n_31), rfl, trivial, hI_order, by rw [ht]; exact hP9, hD9⟩, hS.F ht⟩) hS.2.2 dX12_tries_246
set_option maxHeartbeats 4000000 in
set_option maxRecDepth 100000 in
theorem lm_tries5 {p : Program} {l : Launch} {e : Env} {s : State} {m : MethodId} {args : Array Value} {below : List Frame} {meth : Method} {c : Code} {Q : State → Prop} {A : Nat → Prop} (E : vE) (h0 : Nat) (q : Nat → Nat) (i_taped : Int32) (i_size : Int32) (i_sort : Int32) (i_what : Int32) (i_at : Int32) (i_end : Int32) (i_worth : Int32) (i_faultKind : Int32) (i_faultPlace : Int32) (i_got : Int32) (i_worked : Int32) (i_isPlanned : Int32) (i_bestDone : Int32) (i_bestCost : Int32) (dl : Nat) (cr : Nat) (po : Nat) (se_ : Nat) (ro : Nat) (da : Int32) (co_ : Int32) (a_flights : Nat → Int32) (a_dFrom : Nat → Int32) (a_dTo : Nat → Int32) (a_dDays : Nat → Int32) (a_dFirst : Nat → Int32) (a_dLast : Nat → Int32) (hx : p.tables.exec = Jvm.exec) (hb : c.code = cX12_tries) (hml : c.maxLocals = 11) (hown : s.vm.findClass RX12 = some m.cls) (hts : ∀ w ∈ wsX12_tries, w.before args s = true) (hkn : kn E s) (hst : st E A s s.heap) (hA : ∀ q : Nat, s.heap.size ≤ q → A q) (hcr : cr < 4) (hpo : po ≤ 9) (hse : se_ < 128) (hdl : dl ≤ 7) (hbc : bc7 se_ = 5) (hro : dg ro 5) (hI_dFrom : ∀ k : Nat, k < 7 → inR (a_dFrom k) 0 9 = true) (hI_dTo : ∀ k : Nat, k < 7 → inR (a_dTo k) 0 9 = true) (kk : ∀ (a_least : Nat → Int32) (a_order : Nat → Int32) (H : Heap) (locs : List Loc) (ls : Array Slot), (∀ k : Nat, k < 512 → digOK (a_order k)) → va_P E.1 vwCl [(h0, .inr (12, mG q i_taped i_size i_sort i_what i_at i_end i_worth i_faultKind i_faultPlace i_got i_worked (nI dl) i_isPlanned i_bestDone i_bestCost)), (q 51, .inl (E.2.1 0, 512, .inl a_least)), (q 52, .inl (E.2.1 0, 512, .inl a_order)), (q 49, .inl (E.2.1 0, 100, .inl a_flights)), (q 42, .inl (E.2.1 0, 7, .inl a_dFrom)), (q 43, .inl (E.2.1 0, 7, .inl a_dTo)), (q 44, .inl (E.2.1 0, 7, .inl a_dDays)), (q 45, .inl (E.2.1 0, 7, .inl a_dFirst)), (q 46, .inl (E.2.1 0, 7, .inl a_dLast))] H → va_D A [(h0, .inr (12, mG q i_taped i_size i_sort i_what i_at i_end i_worth i_faultKind i_faultPlace i_got i_worked (nI dl) i_isPlanned i_bestDone i_bestCost)), (q 51, .inl (E.2.1 0, 512, .inl a_least)), (q 52, .inl (E.2.1 0, 512, .inl a_order)), (q 49, .inl (E.2.1 0, 100, .inl a_flights)), (q 42, .inl (E.2.1 0, 7, .inl a_dFrom)), (q 43, .inl (E.2.1 0, 7, .inl a_dTo)), (q 44, .inl (E.2.1 0, 7, .inl a_dDays)), (q 45, .inl (E.2.1 0, 7, .inl a_dFirst)), (q 46, .inl (E.2.1 0, 7, .inl a_dLast))] → va_S A s.heap H locs → lv_has ls 11 [(0, .ref h0)] → W p l e ({ frames := 2, cells := 0, slots := 0, locals := 60 }) s m args below meth c H locs 0 0 Q (F0 m 246 ls [])) : ∀ (n0 : Nat) (k : Nat) (a_least : Nat → Int32) (a_order : Nat → Int32) (H : Heap) (locs : List Loc) (ls : Array Slot), 8 - k < n0 → (k ≤ 7) → (∀ k : Nat, k < 512 → digOK (a_order k)) → va_P E.1 vwCl [(h0, .inr (12, mG q i_taped i_size i_sort i_what i_at i_end i_worth i_faultKind i_faultPlace i_got i_worked (nI dl) i_isPlanned i_bestDone i_bestCost)), (q 51, .inl (E.2.1 0, 512, .inl a_least)), (q 52, .inl (E.2.1 0, 512, .inl a_order)), (q 49, .inl (E.2.1 0, 100, .inl a_flights)), (q 42, .inl (E.2.1 0, 7, .inl a_dFrom)), (q 43, .inl (E.2.1 0, 7, .inl a_dTo)), (q 44, .inl (E.2.1 0, 7, .inl a_dDays)), (q 45, .inl (E.2.1 0, 7, .inl a_dFirst)), (q 46, .inl (E.2.1 0, 7, .inl a_dLast))] H → va_D A [(h0, .inr (12, mG q i_taped i_size i_sort i_what i_at i_end i_worth i_faultKind i_faultPlace i_got i_worked (nI dl) i_isPlanned i_bestDone i_bestCost)), (q 51, .inl (E.2.1 0, 512, .inl a_least)), (q 52, .inl (E.2.1 0, 512, .inl a_order)), (q 49, .inl (E.2.1 0, 100, .inl a_flights)), (q 42, .inl (E.2.1 0, 7, .inl a_dFrom)), (q 43, .inl (E.2.1 0, 7, .inl a_dTo)), (q 44, .inl (E.2.1 0, 7, .inl a_dDays)), (q 45, .inl (E.2.1 0, 7, .inl a_dFirst)), (q 46, .inl (E.2.1 0, 7, .inl a_dLast))] → va_S A s.heap H locs → lv_has ls 11 [(0, .ref h0), (1, .int (nI cr)), (2, .int (nI po)), (3, .int da), (4, .int (nI se_)), (5, .int (nI ro)), (6, .int co_), (8, .int (nI k))] → W p l e ({ frames := 2, cells := 0, slots := 0, locals := 60 }) s m args below meth c H locs 0 0 Q (F0 m 78 ls []) := by
  have hK := hkn.1
  have hAO := hkn.2.2.1
  have fl106 := hts (.fieldLink RX12 106 "BoatsHomeModel" "dFrom" "[I") (by first | exact List.mem_of_getElem? (i := 5) rfl | decide +kernel)
  have fl109 := hts (.fieldLink RX12 109 "BoatsHomeModel" "dTo" "[I") (by first | exact List.mem_of_getElem? (i := 8) rfl | decide +kernel)
  have fl112 := hts (.fieldLink RX12 112 "BoatsHomeModel" "dDays" "[I") (by first | exact List.mem_of_getElem? (i := 9) rfl | decide +kernel)
  have fl115 := hts (.fieldLink RX12 115 "BoatsHomeModel" "dFirst" "[I") (by first | exact List.mem_of_getElem? (i := 6) rfl | decide +kernel)
  have fl118 := hts (.fieldLink RX12 118 "BoatsHomeModel" "dLast" "[I") (by first | exact List.mem_of_getElem? (i := 7) rfl | decide +kernel)
  have fl127 := hts (.fieldLink RX12 127 "BoatsHomeModel" "flights" "[I") (by first | exact List.mem_of_getElem? (i := 4) rfl | decide +kernel)
  have fl130 := hts (.fieldLink RX12 130 "BoatsHomeModel" "least" "[I") (by first | exact List.mem_of_getElem? (i := 1) rfl | decide +kernel)
  have fl133 := hts (.fieldLink RX12 133 "BoatsHomeModel" "order" "[I") (by first | exact List.mem_of_getElem? (i := 2) rfl | decide +kernel)
  have fl289 := hts (.fieldLink RX12 289 "BoatsHomeModel" "deliveries" "I") (by first | exact List.mem_of_getElem? (i := 3) rfl | decide +kernel)
  have inX12 : ∀ w ∈ u_ws RX12 TX12 59, w ∈ wsX12_tries := by first | exact fun w h9 => (List.mem_cons_of_mem _ (List.mem_append_right _ h9)) | decide +kernel
  intro n0
  induction n0 with
  | zero =>
    intro k a_least a_order H locs ls hn0
    exact absurd hn0 (Nat.not_lt_zero _)
  | succ n0 ih =>
    intro k a_least a_order H locs ls hn0 hk hI_order hP hD hS hl
    refine lv_iload hx hb dX12_tries_78 (lv_at hl 7 rfl) ?_
    refine lv_aload_n hx hb dX12_tries_80 rfl (lv_at hl 0 rfl) ?_
    refine va_get (D := E.1) (ci := 12) (v := .int (nI dl)) (C := RX12) (T := TX12) (N := 59) hx hb hts inX12 hown hK hP 0 rfl rfl 41 (by decide) fl289 (fun _ h9 => h9) rfl dX12_tries_81 ?_
    refine lv_icmp_ge (tgt := 246) hx hb dX12_tries_84 (by decide) (fun c_1 => ?_) (fun c_1 => ?_)
    · exact kk a_least a_order _ _ _ hI_order (hP.sub [0, 1, 2, 3, 4, 5, 6, 7, 8] rfl) (hD.sub [0, 1, 2, 3, 4, 5, 6, 7, 8] (by decide) rfl) hS (lv_sub hl [0] rfl)
    · have hlt : k < 7 := by have := lt_of_nle (by omega) c_1; omega
      refine lv_iload hx hb dX12_tries_87 (lv_at hl 4 rfl) ?_
      refine lv_iload hx hb dX12_tries_89 (lv_at hl 7 rfl) ?_
      refine lv_ishr hx hb dX12_tries_91 ?_
      refine lv_topi (fun x_2 ex_2 => ?_)
      refine lv_iconst (v := 1) hx hb dX12_tries_92 (by decide) ?_
      refine lv_iand hx hb dX12_tries_93 ?_
      refine lv_topi (fun x_3 ex_3 => ?_)
      refine lv_iconst (v := 1) hx hb dX12_tries_94 (by decide) ?_
      refine lv_icmp_eq (tgt := 240) hx hb dX12_tries_95 (by decide) (fun c_4 => ?_) (fun c_4 => ?_)
      · refine lv_iinc (v := (nI (k + 1))) (lv' := [(8, .int (nI (k + 1))), (0, .ref h0), (1, .int (nI cr)), (2, .int (nI po)), (3, .int da), (4, .int (nI se_)), (5, .int (nI ro)), (6, .int co_)]) hx hb dX12_tries_240 hl (k := 7) rfl (show nI k + 1 = nI (k + 1) from nI_1 k) (by decide) rfl (fun ls hl => ?_)
        refine lv_goto (tgt := 78) hx hb dX12_tries_243 (by decide) ?_
        exact ih (k + 1) a_least a_order _ _ _ (by omega) (by omega) hI_order (hP.sub [0, 1, 2, 3, 4, 5, 6, 7, 8] rfl) (hD.sub [0, 1, 2, 3, 4, 5, 6, 7, 8] (by decide) rfl) hS (lv_sub hl [1, 2, 3, 4, 5, 6, 7, 0] rfl)
      · refine lv_aload_n hx hb dX12_tries_98 rfl (lv_at hl 0 rfl) ?_
        refine va_get (D := E.1) (ci := 12) (v := .ref (q 49)) (C := RX12) (T := TX12) (N := 59) hx hb hts inX12 hown hK hP 0 rfl rfl 49 (by decide) fl127 (fun _ h9 => h9) rfl dX12_tries_99 ?_
        refine lv_bipush (v := 10) hx hb dX12_tries_102 (by decide) ?_
        refine lv_iload_n hx hb dX12_tries_104 rfl (lv_at hl 2 rfl) ?_
        refine lv_imul hx hb dX12_tries_105 ?_
        refine lv_topi (fun x_5 ex_5 => ?_)
        obtain rfl : x_5 = nI (10 * po) := ex_5.trans (pk_mul 10 po)
        refine lv_aload_n hx hb dX12_tries_106 rfl (lv_at hl 0 rfl) ?_
        refine va_get (D := E.1) (ci := 12) (v := .ref (q 42)) (C := RX12) (T := TX12) (N := 59) hx hb hts inX12 hown hK hP 0 rfl rfl 42 (by decide) fl106 (fun _ h9 => h9) rfl dX12_tries_107 ?_
        refine lv_iload hx hb dX12_tries_110 (lv_at hl 7 rfl) ?_
        have hi_6 : vp_in (nI k) 7 := vp_in_nI (by omega) (by decide)
        refine va_iald hx hb hK hP 4 0 rfl rfl hi_6 dX12_tries_112 ?_
        refine lv_topi (fun x_7 ex_7 => ?_)
        have hv_8 : inR x_7 0 9 = true := by rw [ex_7]; exact hI_dFrom _ (vin_cl hi_6)
        obtain ⟨w_9, hw_10, ew_11⟩ := inR_nI (n := 9) (by decide) hv_8
        subst ew_11
        refine lv_iadd hx hb dX12_tries_113 ?_
        refine lv_topi (fun x_12 ex_12 => ?_)
        obtain rfl : x_12 = nI ((10 * po) + w_9) := ex_12.trans (nI_add (10 * po) w_9)
        have hi_13 : vp_in (nI ((10 * po) + w_9)) 100 := vp_in_nI (by omega) (by decide)
        refine va_iald hx hb hK hP 3 0 rfl rfl hi_13 dX12_tries_114 ?_
        refine lv_topi (fun x_14 ex_14 => ?_)
        refine lv_iconst (v := (-1)) hx hb dX12_tries_115 (by decide) ?_
        refine lv_icmp_ne (tgt := 122) hx hb dX12_tries_116 (by decide) (fun c_15 => ?_) (fun c_15 => ?_)
        · refine lv_iload_n hx hb dX12_tries_122 rfl (lv_at hl 3 rfl) ?_
          refine lv_iload_n hx hb dX12_tries_123 rfl (lv_at hl 2 rfl) ?_
          refine lv_aload_n hx hb dX12_tries_124 rfl (lv_at hl 0 rfl) ?_
          refine va_get (D := E.1) (ci := 12) (v := .ref (q 42)) (C := RX12) (T := TX12) (N := 59) hx hb hts inX12 hown hK hP 0 rfl rfl 42 (by decide) fl106 (fun _ h9 => h9) rfl dX12_tries_125 ?_
          refine lv_iload hx hb dX12_tries_128 (lv_at hl 7 rfl) ?_
          refine va_iald hx hb hK hP 4 0 rfl rfl hi_6 dX12_tries_130 ?_
          refine lv_topi (fun x_16 ex_16 => ?_)
          obtain rfl : x_16 = nI w_9 := ex_16.trans ex_7.symm
          refine lv_icmp_ne (tgt := 138) hx hb dX12_tries_131 (by decide) (fun c_17 => ?_) (fun c_17 => ?_)
          · refine lv_iconst (v := 1) hx hb dX12_tries_138 (by decide) ?_
            refine lv_iadd hx hb dX12_tries_139 ?_
            refine lv_topi (fun x_18 ex_18 => ?_)
            refine lv_istore (lv' := [(9, .int x_18), (0, .ref h0), (1, .int (nI cr)), (2, .int (nI po)), (3, .int da), (4, .int (nI se_)), (5, .int (nI ro)), (6, .int co_), (8, .int (nI k))]) hx hb dX12_tries_140 hl (by decide) rfl (fun ls hl => ?_)
            refine lv_iload hx hb dX12_tries_142 (lv_at hl 0 rfl) ?_
            refine lv_aload_n hx hb dX12_tries_144 rfl (lv_at hl 1 rfl) ?_
            refine va_get (D := E.1) (ci := 12) (v := .ref (q 45)) (C := RX12) (T := TX12) (N := 59) hx hb hts inX12 hown hK hP 0 rfl rfl 45 (by decide) fl115 (fun _ h9 => h9) rfl dX12_tries_145 ?_
            refine lv_iload hx hb dX12_tries_148 (lv_at hl 8 rfl) ?_
            refine va_iald hx hb hK hP 7 0 rfl rfl hi_6 dX12_tries_150 ?_
            refine lv_topi (fun x_19 ex_19 => ?_)
            refine lv_icmp_le (tgt := 159) hx hb dX12_tries_151 (by decide) (fun c_20 => ?_) (fun c_20 => ?_)
            · refine lv_aload_n hx hb dX12_tries_159 rfl (lv_at hl 1 rfl) ?_
              refine va_get (D := E.1) (ci := 12) (v := .ref (q 45)) (C := RX12) (T := TX12) (N := 59) hx hb hts inX12 hown hK hP 0 rfl rfl 45 (by decide) fl115 (fun _ h9 => h9) rfl dX12_tries_160 ?_
              refine lv_iload hx hb dX12_tries_163 (lv_at hl 8 rfl) ?_
              refine va_iald hx hb hK hP 7 0 rfl rfl hi_6 dX12_tries_165 ?_
              refine lv_topi (fun x_21 ex_21 => ?_)
              refine lv_istore (lv' := [(10, .int x_21), (9, .int x_18), (0, .ref h0), (1, .int (nI cr)), (2, .int (nI po)), (3, .int da), (4, .int (nI se_)), (5, .int (nI ro)), (6, .int co_), (8, .int (nI k))]) hx hb dX12_tries_166 hl (by decide) rfl (fun ls hl => ?_)
              refine lv_iload hx hb dX12_tries_168 (lv_at hl 0 rfl) ?_
              refine lv_aload_n hx hb dX12_tries_170 rfl (lv_at hl 2 rfl) ?_
              refine va_get (D := E.1) (ci := 12) (v := .ref (q 46)) (C := RX12) (T := TX12) (N := 59) hx hb hts inX12 hown hK hP 0 rfl rfl 46 (by decide) fl118 (fun _ h9 => h9) rfl dX12_tries_171 ?_
              refine lv_iload hx hb dX12_tries_174 (lv_at hl 9 rfl) ?_
              refine va_iald hx hb hK hP 8 0 rfl rfl hi_6 dX12_tries_176 ?_
              refine lv_topi (fun x_22 ex_22 => ?_)
              refine lv_icmp_le (tgt := 183) hx hb dX12_tries_177 (by decide) (fun c_23 => ?_) (fun c_23 => ?_)
              · refine lv_aload_n hx hb dX12_tries_183 rfl (lv_at hl 2 rfl) ?_
                refine lv_iload_n hx hb dX12_tries_184 rfl (lv_at hl 3 rfl) ?_
                refine lv_aload_n hx hb dX12_tries_185 rfl (lv_at hl 2 rfl) ?_
                refine va_get (D := E.1) (ci := 12) (v := .ref (q 43)) (C := RX12) (T := TX12) (N := 59) hx hb hts inX12 hown hK hP 0 rfl rfl 43 (by decide) fl109 (fun _ h9 => h9) rfl dX12_tries_186 ?_
                refine lv_iload hx hb dX12_tries_189 (lv_at hl 9 rfl) ?_
                refine va_iald hx hb hK hP 5 0 rfl rfl hi_6 dX12_tries_191 ?_
                refine lv_topi (fun x_24 ex_24 => ?_)
                have hv_25 : inR x_24 0 9 = true := by rw [ex_24]; exact hI_dTo _ (vin_cl hi_6)
                obtain ⟨w_26, hw_27, ew_28⟩ := inR_nI (n := 9) (by decide) hv_25
                subst ew_28
                refine lv_iload hx hb dX12_tries_192 (lv_at hl 0 rfl) ?_
                refine lv_aload_n hx hb dX12_tries_194 rfl (lv_at hl 2 rfl) ?_
                refine va_get (D := E.1) (ci := 12) (v := .ref (q 44)) (C := RX12) (T := TX12) (N := 59) hx hb hts inX12 hown hK hP 0 rfl rfl 44 (by decide) fl112 (fun _ h9 => h9) rfl dX12_tries_195 ?_
                refine lv_iload hx hb dX12_tries_198 (lv_at hl 9 rfl) ?_
                refine va_iald hx hb hK hP 6 0 rfl rfl hi_6 dX12_tries_200 ?_
                refine lv_topi (fun x_29 ex_29 => ?_)
                refine lv_iadd hx hb dX12_tries_201 ?_
                refine lv_topi (fun x_30 ex_30 => ?_)
                refine lv_iload hx hb dX12_tries_202 (lv_at hl 6 rfl) ?_
                refine lv_iconst (v := 1) hx hb dX12_tries_204 (by decide) ?_
                refine lv_iload hx hb dX12_tries_205 (lv_at hl 9 rfl) ?_
                refine lv_ishl hx hb dX12_tries_207 ?_
                refine lv_topi (fun x_31 ex_31 => ?_)
                refine lv_ior hx hb dX12_tries_208 ?_
                refine lv_topi (fun x_32 ex_32 => ?_)
                obtain ⟨w_33, hw_34, hw_34b, hw_34e⟩ : ∃ w, w < 128 ∧ bc7 w = 5 + 1 ∧ x_32 = nI w := by rw [ex_32, ex_31]; exact tr_bit hse hlt hbc (by rw [ex_3, ex_2] at c_4; exact c_4)
                subst hw_34e
                refine lv_bipush (v := 8) hx hb dX12_tries_209 (by decide) ?_
                refine lv_iload hx hb dX12_tries_211 (lv_at hl 7 rfl) ?_
                refine lv_imul hx hb dX12_tries_213 ?_
                refine lv_topi (fun x_35 ex_35 => ?_)
                obtain rfl : x_35 = nI (8 * ro) := ex_35.trans (pk_mul 8 ro)
                refine lv_iload hx hb dX12_tries_214 (lv_at hl 9 rfl) ?_
                refine lv_iadd hx hb dX12_tries_216 ?_
                refine lv_topi (fun x_36 ex_36 => ?_)
                obtain rfl : x_36 = nI ((8 * ro) + k) := ex_36.trans (nI_add (8 * ro) k)
                refine lv_iload hx hb dX12_tries_217 (lv_at hl 8 rfl) ?_
                refine lv_aload_n hx hb dX12_tries_219 rfl (lv_at hl 2 rfl) ?_
                refine va_get (D := E.1) (ci := 12) (v := .ref (q 49)) (C := RX12) (T := TX12) (N := 59) hx hb hts inX12 hown hK hP 0 rfl rfl 49 (by decide) fl127 (fun _ h9 => h9) rfl dX12_tries_220 ?_
                refine lv_bipush (v := 10) hx hb dX12_tries_223 (by decide) ?_
                refine lv_iload_n hx hb dX12_tries_225 rfl (lv_at hl 4 rfl) ?_
                refine lv_imul hx hb dX12_tries_226 ?_
                refine lv_topi (fun x_37 ex_37 => ?_)
                obtain rfl : x_37 = nI (10 * po) := ex_37.trans (pk_mul 10 po)
                refine lv_aload_n hx hb dX12_tries_227 rfl (lv_at hl 2 rfl) ?_
                refine va_get (D := E.1) (ci := 12) (v := .ref (q 42)) (C := RX12) (T := TX12) (N := 59) hx hb hts inX12 hown hK hP 0 rfl rfl 42 (by decide) fl106 (fun _ h9 => h9) rfl dX12_tries_228 ?_
                refine lv_iload hx hb dX12_tries_231 (lv_at hl 9 rfl) ?_
                refine va_iald hx hb hK hP 4 0 rfl rfl hi_6 dX12_tries_233 ?_
                refine lv_topi (fun x_38 ex_38 => ?_)
                obtain rfl : x_38 = nI w_9 := ex_38.trans ex_7.symm
                refine lv_iadd hx hb dX12_tries_234 ?_
                refine lv_topi (fun x_39 ex_39 => ?_)
                obtain rfl : x_39 = nI ((10 * po) + w_9) := ex_39.trans (nI_add (10 * po) w_9)
                refine va_iald hx hb hK hP 3 0 rfl rfl hi_13 dX12_tries_235 ?_
                refine lv_topi (fun x_40 ex_40 => ?_)
                refine lv_iadd hx hb dX12_tries_236 ?_
                refine lv_topi (fun x_41 ex_41 => ?_)
                have hPc := hP.sub (ws' := [(h0, .inr (12, mG q i_taped i_size i_sort i_what i_at i_end i_worth i_faultKind i_faultPlace i_got i_worked (nI dl) i_isPlanned i_bestDone i_bestCost)), (q 51, .inl (E.2.1 0, 512, .inl a_least)), (q 52, .inl (E.2.1 0, 512, .inl a_order)), (q 49, .inl (E.2.1 0, 100, .inl a_flights)), (q 42, .inl (E.2.1 0, 7, .inl a_dFrom)), (q 43, .inl (E.2.1 0, 7, .inl a_dTo)), (q 44, .inl (E.2.1 0, 7, .inl a_dDays)), (q 45, .inl (E.2.1 0, 7, .inl a_dFirst)), (q 46, .inl (E.2.1 0, 7, .inl a_dLast))]) [0, 1, 2, 3, 4, 5, 6, 7, 8] rfl
                have hDc := hD.sub (ws' := [(h0, .inr (12, mG q i_taped i_size i_sort i_what i_at i_end i_worth i_faultKind i_faultPlace i_got i_worked (nI dl) i_isPlanned i_bestDone i_bestCost)), (q 51, .inl (E.2.1 0, 512, .inl a_least)), (q 52, .inl (E.2.1 0, 512, .inl a_order)), (q 49, .inl (E.2.1 0, 100, .inl a_flights)), (q 42, .inl (E.2.1 0, 7, .inl a_dFrom)), (q 43, .inl (E.2.1 0, 7, .inl a_dTo)), (q 44, .inl (E.2.1 0, 7, .inl a_dDays)), (q 45, .inl (E.2.1 0, 7, .inl a_dFirst)), (q 46, .inl (E.2.1 0, 7, .inl a_dLast))]) [0, 1, 2, 3, 4, 5, 6, 7, 8] (by decide) rfl
                have hFc := va_free (wc := [(h0, .inr (12, mG q i_taped i_size i_sort i_what i_at i_end i_worth i_faultKind i_faultPlace i_got i_worked (nI dl) i_isPlanned i_bestDone i_bestCost)), (q 51, .inl (E.2.1 0, 512, .inl a_least)), (q 52, .inl (E.2.1 0, 512, .inl a_order)), (q 49, .inl (E.2.1 0, 100, .inl a_flights)), (q 42, .inl (E.2.1 0, 7, .inl a_dFrom)), (q 43, .inl (E.2.1 0, 7, .inl a_dTo)), (q 44, .inl (E.2.1 0, 7, .inl a_dDays)), (q 45, .inl (E.2.1 0, 7, .inl a_dFirst)), (q 46, .inl (E.2.1 0, 7, .inl a_dLast))]) hD hS hA [0, 1, 2, 3, 4, 5, 6, 7, 8] rfl
                refine va_callv (va_runV (As := [.int (nI cr), .int (nI w_26), .int x_30, .int (nI w_33), .int (nI ((8 * ro) + k)), .int x_41]) (rest := []) ⟨hx, hb, hml, hown, hts⟩ (c_X12_tries6 l E h0 q i_taped i_size i_sort i_what i_at i_end i_worth i_faultKind i_faultPlace i_got i_worked i_isPlanned i_bestDone i_bestCost dl cr w_26 w_33 ((8 * ro) + k) a_least a_order a_flights a_dFrom a_dTo a_dDays a_dFirst a_dLast x_30 x_41 H.size hcr (by omega) hw_34 hdl hw_34b (dg_step hro hlt) hI_order hI_dFrom hI_dTo) (cwV 6 hts gX12_tries_X12_tries rfl rfl rfl hdV_X12_tries ⟨Nat.le_of_ble_eq_true rfl, Nat.le_of_ble_eq_true rfl⟩) ⟨pcW_blind, va_recv hK hPc (ci := 12) (q0 := 0) rfl rfl, (pcW_pre hPc hkn hDc hst hS hFc)⟩ rfl rfl hl.1 rfl (lv_room (Nat.le_of_ble_eq_true rfl)) dX12_tries_237 ⟨Nat.le_of_ble_eq_true rfl, Nat.le_of_ble_eq_true rfl⟩) hS (fun q _ h => hFc q h) hFc (fun u t H1 locs ht hvm hw_43 hB hz1 hk1 hS => ?_)
                obtain ⟨u_44, u_45⟩ := u
                obtain ⟨hf_46, hP1, hD1⟩ := hB
                rw [ht] at hP1
                try dsimp only at hw_43
                obtain ⟨hP, hD⟩ := va_join (wr := []) (w1 := [(h0, .inr (12, mG q i_taped i_size i_sort i_what i_at i_end i_worth i_faultKind i_faultPlace i_got i_worked (nI dl) i_isPlanned i_bestDone i_bestCost)), (q 51, .inl (E.2.1 0, 512, .inl u_44)), (q 52, .inl (E.2.1 0, 512, .inl u_45)), (q 49, .inl (E.2.1 0, 100, .inl a_flights)), (q 42, .inl (E.2.1 0, 7, .inl a_dFrom)), (q 43, .inl (E.2.1 0, 7, .inl a_dTo)), (q 44, .inl (E.2.1 0, 7, .inl a_dDays)), (q 45, .inl (E.2.1 0, 7, .inl a_dFirst)), (q 46, .inl (E.2.1 0, 7, .inl a_dLast))]) hP hD [0, 1, 2, 3, 4, 5, 6, 7, 8] [] rfl rfl (by decide) (by decide) hk1 hFc hP1 hD1
                generalize H1 = H at hP hS ⊢
                have hP : va_P E.1 vwCl [(h0, .inr (12, mG q i_taped i_size i_sort i_what i_at i_end i_worth i_faultKind i_faultPlace i_got i_worked (nI dl) i_isPlanned i_bestDone i_bestCost)), (q 51, .inl (E.2.1 0, 512, .inl u_44)), (q 52, .inl (E.2.1 0, 512, .inl u_45)), (q 49, .inl (E.2.1 0, 100, .inl a_flights)), (q 42, .inl (E.2.1 0, 7, .inl a_dFrom)), (q 43, .inl (E.2.1 0, 7, .inl a_dTo)), (q 44, .inl (E.2.1 0, 7, .inl a_dDays)), (q 45, .inl (E.2.1 0, 7, .inl a_dFirst)), (q 46, .inl (E.2.1 0, 7, .inl a_dLast))] H := hP
                have hD : va_D A [(h0, .inr (12, mG q i_taped i_size i_sort i_what i_at i_end i_worth i_faultKind i_faultPlace i_got i_worked (nI dl) i_isPlanned i_bestDone i_bestCost)), (q 51, .inl (E.2.1 0, 512, .inl u_44)), (q 52, .inl (E.2.1 0, 512, .inl u_45)), (q 49, .inl (E.2.1 0, 100, .inl a_flights)), (q 42, .inl (E.2.1 0, 7, .inl a_dFrom)), (q 43, .inl (E.2.1 0, 7, .inl a_dTo)), (q 44, .inl (E.2.1 0, 7, .inl a_dDays)), (q 45, .inl (E.2.1 0, 7, .inl a_dFirst)), (q 46, .inl (E.2.1 0, 7, .inl a_dLast))] := hD
                refine lv_iinc (v := (nI (k + 1))) (lv' := [(8, .int (nI (k + 1))), (10, .int x_21), (9, .int x_18), (0, .ref h0), (1, .int (nI cr)), (2, .int (nI po)), (3, .int da), (4, .int (nI se_)), (5, .int (nI ro)), (6, .int co_)]) hx hb dX12_tries_240 hl (k := 9) rfl (show nI k + 1 = nI (k + 1) from nI_1 k) (by decide) rfl (fun ls hl => ?_)
                refine lv_goto (tgt := 78) hx hb dX12_tries_243 (by decide) ?_
                exact ih (k + 1) u_44 u_45 _ _ _ (by omega) (by omega) hf_46 (hP.sub [0, 1, 2, 3, 4, 5, 6, 7, 8] rfl) (hD.sub [0, 1, 2, 3, 4, 5, 6, 7, 8] (by decide) rfl) hS (lv_sub hl [3, 4, 5, 6, 7, 8, 9, 0] rfl)
              · refine lv_goto (tgt := 240) hx hb dX12_tries_180 (by decide) ?_
                refine lv_iinc (v := (nI (k + 1))) (lv' := [(8, .int (nI (k + 1))), (10, .int x_21), (9, .int x_18), (0, .ref h0), (1, .int (nI cr)), (2, .int (nI po)), (3, .int da), (4, .int (nI se_)), (5, .int (nI ro)), (6, .int co_)]) hx hb dX12_tries_240 hl (k := 9) rfl (show nI k + 1 = nI (k + 1) from nI_1 k) (by decide) rfl (fun ls hl => ?_)
                refine lv_goto (tgt := 78) hx hb dX12_tries_243 (by decide) ?_
                exact ih (k + 1) a_least a_order _ _ _ (by omega) (by omega) hI_order (hP.sub [0, 1, 2, 3, 4, 5, 6, 7, 8] rfl) (hD.sub [0, 1, 2, 3, 4, 5, 6, 7, 8] (by decide) rfl) hS (lv_sub hl [3, 4, 5, 6, 7, 8, 9, 0] rfl)
            · refine lv_iload hx hb dX12_tries_154 (lv_at hl 0 rfl) ?_
              refine lv_goto (tgt := 166) hx hb dX12_tries_156 (by decide) ?_
              refine lv_istore (lv' := [(10, .int x_18), (9, .int x_18), (0, .ref h0), (1, .int (nI cr)), (2, .int (nI po)), (3, .int da), (4, .int (nI se_)), (5, .int (nI ro)), (6, .int co_), (8, .int (nI k))]) hx hb dX12_tries_166 hl (by decide) rfl (fun ls hl => ?_)
              refine lv_iload hx hb dX12_tries_168 (lv_at hl 0 rfl) ?_
              refine lv_aload_n hx hb dX12_tries_170 rfl (lv_at hl 2 rfl) ?_
              refine va_get (D := E.1) (ci := 12) (v := .ref (q 46)) (C := RX12) (T := TX12) (N := 59) hx hb hts inX12 hown hK hP 0 rfl rfl 46 (by decide) fl118 (fun _ h9 => h9) rfl dX12_tries_171 ?_
              refine lv_iload hx hb dX12_tries_174 (lv_at hl 9 rfl) ?_
              refine va_iald hx hb hK hP 8 0 rfl rfl hi_6 dX12_tries_176 ?_
              refine lv_topi (fun x_47 ex_47 => ?_)
              refine lv_icmp_le (tgt := 183) hx hb dX12_tries_177 (by decide) (fun c_48 => ?_) (fun c_48 => ?_)
              · refine lv_aload_n hx hb dX12_tries_183 rfl (lv_at hl 2 rfl) ?_
                refine lv_iload_n hx hb dX12_tries_184 rfl (lv_at hl 3 rfl) ?_
                refine lv_aload_n hx hb dX12_tries_185 rfl (lv_at hl 2 rfl) ?_
                refine va_get (D := E.1) (ci := 12) (v := .ref (q 43)) (C := RX12) (T := TX12) (N := 59) hx hb hts inX12 hown hK hP 0 rfl rfl 43 (by decide) fl109 (fun _ h9 => h9) rfl dX12_tries_186 ?_
                refine lv_iload hx hb dX12_tries_189 (lv_at hl 9 rfl) ?_
                refine va_iald hx hb hK hP 5 0 rfl rfl hi_6 dX12_tries_191 ?_
                refine lv_topi (fun x_49 ex_49 => ?_)
                have hv_50 : inR x_49 0 9 = true := by rw [ex_49]; exact hI_dTo _ (vin_cl hi_6)
                obtain ⟨w_51, hw_52, ew_53⟩ := inR_nI (n := 9) (by decide) hv_50
                subst ew_53
                refine lv_iload hx hb dX12_tries_192 (lv_at hl 0 rfl) ?_
                refine lv_aload_n hx hb dX12_tries_194 rfl (lv_at hl 2 rfl) ?_
                refine va_get (D := E.1) (ci := 12) (v := .ref (q 44)) (C := RX12) (T := TX12) (N := 59) hx hb hts inX12 hown hK hP 0 rfl rfl 44 (by decide) fl112 (fun _ h9 => h9) rfl dX12_tries_195 ?_
                refine lv_iload hx hb dX12_tries_198 (lv_at hl 9 rfl) ?_
                refine va_iald hx hb hK hP 6 0 rfl rfl hi_6 dX12_tries_200 ?_
                refine lv_topi (fun x_54 ex_54 => ?_)
                refine lv_iadd hx hb dX12_tries_201 ?_
                refine lv_topi (fun x_55 ex_55 => ?_)
                refine lv_iload hx hb dX12_tries_202 (lv_at hl 6 rfl) ?_
                refine lv_iconst (v := 1) hx hb dX12_tries_204 (by decide) ?_
                refine lv_iload hx hb dX12_tries_205 (lv_at hl 9 rfl) ?_
                refine lv_ishl hx hb dX12_tries_207 ?_
                refine lv_topi (fun x_56 ex_56 => ?_)
                refine lv_ior hx hb dX12_tries_208 ?_
                refine lv_topi (fun x_57 ex_57 => ?_)
                obtain ⟨w_58, hw_59, hw_59b, hw_59e⟩ : ∃ w, w < 128 ∧ bc7 w = 5 + 1 ∧ x_57 = nI w := by rw [ex_57, ex_56]; exact tr_bit hse hlt hbc (by rw [ex_3, ex_2] at c_4; exact c_4)
                subst hw_59e
                refine lv_bipush (v := 8) hx hb dX12_tries_209 (by decide) ?_
                refine lv_iload hx hb dX12_tries_211 (lv_at hl 7 rfl) ?_
                refine lv_imul hx hb dX12_tries_213 ?_
                refine lv_topi (fun x_60 ex_60 => ?_)
                obtain rfl : x_60 = nI (8 * ro) := ex_60.trans (pk_mul 8 ro)
                refine lv_iload hx hb dX12_tries_214 (lv_at hl 9 rfl) ?_
                refine lv_iadd hx hb dX12_tries_216 ?_
                refine lv_topi (fun x_61 ex_61 => ?_)
                obtain rfl : x_61 = nI ((8 * ro) + k) := ex_61.trans (nI_add (8 * ro) k)
                refine lv_iload hx hb dX12_tries_217 (lv_at hl 8 rfl) ?_
                refine lv_aload_n hx hb dX12_tries_219 rfl (lv_at hl 2 rfl) ?_
                refine va_get (D := E.1) (ci := 12) (v := .ref (q 49)) (C := RX12) (T := TX12) (N := 59) hx hb hts inX12 hown hK hP 0 rfl rfl 49 (by decide) fl127 (fun _ h9 => h9) rfl dX12_tries_220 ?_
                refine lv_bipush (v := 10) hx hb dX12_tries_223 (by decide) ?_
                refine lv_iload_n hx hb dX12_tries_225 rfl (lv_at hl 4 rfl) ?_
                refine lv_imul hx hb dX12_tries_226 ?_
                refine lv_topi (fun x_62 ex_62 => ?_)
                obtain rfl : x_62 = nI (10 * po) := ex_62.trans (pk_mul 10 po)
                refine lv_aload_n hx hb dX12_tries_227 rfl (lv_at hl 2 rfl) ?_
                refine va_get (D := E.1) (ci := 12) (v := .ref (q 42)) (C := RX12) (T := TX12) (N := 59) hx hb hts inX12 hown hK hP 0 rfl rfl 42 (by decide) fl106 (fun _ h9 => h9) rfl dX12_tries_228 ?_
                refine lv_iload hx hb dX12_tries_231 (lv_at hl 9 rfl) ?_
                refine va_iald hx hb hK hP 4 0 rfl rfl hi_6 dX12_tries_233 ?_
                refine lv_topi (fun x_63 ex_63 => ?_)
                obtain rfl : x_63 = nI w_9 := ex_63.trans ex_7.symm
                refine lv_iadd hx hb dX12_tries_234 ?_
                refine lv_topi (fun x_64 ex_64 => ?_)
                obtain rfl : x_64 = nI ((10 * po) + w_9) := ex_64.trans (nI_add (10 * po) w_9)
                refine va_iald hx hb hK hP 3 0 rfl rfl hi_13 dX12_tries_235 ?_
                refine lv_topi (fun x_65 ex_65 => ?_)
                refine lv_iadd hx hb dX12_tries_236 ?_
                refine lv_topi (fun x_66 ex_66 => ?_)
                have hPc := hP.sub (ws' := [(h0, .inr (12, mG q i_taped i_size i_sort i_what i_at i_end i_worth i_faultKind i_faultPlace i_got i_worked (nI dl) i_isPlanned i_bestDone i_bestCost)), (q 51, .inl (E.2.1 0, 512, .inl a_least)), (q 52, .inl (E.2.1 0, 512, .inl a_order)), (q 49, .inl (E.2.1 0, 100, .inl a_flights)), (q 42, .inl (E.2.1 0, 7, .inl a_dFrom)), (q 43, .inl (E.2.1 0, 7, .inl a_dTo)), (q 44, .inl (E.2.1 0, 7, .inl a_dDays)), (q 45, .inl (E.2.1 0, 7, .inl a_dFirst)), (q 46, .inl (E.2.1 0, 7, .inl a_dLast))]) [0, 1, 2, 3, 4, 5, 6, 7, 8] rfl
                have hDc := hD.sub (ws' := [(h0, .inr (12, mG q i_taped i_size i_sort i_what i_at i_end i_worth i_faultKind i_faultPlace i_got i_worked (nI dl) i_isPlanned i_bestDone i_bestCost)), (q 51, .inl (E.2.1 0, 512, .inl a_least)), (q 52, .inl (E.2.1 0, 512, .inl a_order)), (q 49, .inl (E.2.1 0, 100, .inl a_flights)), (q 42, .inl (E.2.1 0, 7, .inl a_dFrom)), (q 43, .inl (E.2.1 0, 7, .inl a_dTo)), (q 44, .inl (E.2.1 0, 7, .inl a_dDays)), (q 45, .inl (E.2.1 0, 7, .inl a_dFirst)), (q 46, .inl (E.2.1 0, 7, .inl a_dLast))]) [0, 1, 2, 3, 4, 5, 6, 7, 8] (by decide) rfl
                have hFc := va_free (wc := [(h0, .inr (12, mG q i_taped i_size i_sort i_what i_at i_end i_worth i_faultKind i_faultPlace i_got i_worked (nI dl) i_isPlanned i_bestDone i_bestCost)), (q 51, .inl (E.2.1 0, 512, .inl a_least)), (q 52, .inl (E.2.1 0, 512, .inl a_order)), (q 49, .inl (E.2.1 0, 100, .inl a_flights)), (q 42, .inl (E.2.1 0, 7, .inl a_dFrom)), (q 43, .inl (E.2.1 0, 7, .inl a_dTo)), (q 44, .inl (E.2.1 0, 7, .inl a_dDays)), (q 45, .inl (E.2.1 0, 7, .inl a_dFirst)), (q 46, .inl (E.2.1 0, 7, .inl a_dLast))]) hD hS hA [0, 1, 2, 3, 4, 5, 6, 7, 8] rfl
                refine va_callv (va_runV (As := [.int (nI cr), .int (nI w_51), .int x_55, .int (nI w_58), .int (nI ((8 * ro) + k)), .int x_66]) (rest := []) ⟨hx, hb, hml, hown, hts⟩ (c_X12_tries6 l E h0 q i_taped i_size i_sort i_what i_at i_end i_worth i_faultKind i_faultPlace i_got i_worked i_isPlanned i_bestDone i_bestCost dl cr w_51 w_58 ((8 * ro) + k) a_least a_order a_flights a_dFrom a_dTo a_dDays a_dFirst a_dLast x_55 x_66 H.size hcr (by omega) hw_59 hdl hw_59b (dg_step hro hlt) hI_order hI_dFrom hI_dTo) (cwV 6 hts gX12_tries_X12_tries rfl rfl rfl hdV_X12_tries ⟨Nat.le_of_ble_eq_true rfl, Nat.le_of_ble_eq_true rfl⟩) ⟨pcW_blind, va_recv hK hPc (ci := 12) (q0 := 0) rfl rfl, (pcW_pre hPc hkn hDc hst hS hFc)⟩ rfl rfl hl.1 rfl (lv_room (Nat.le_of_ble_eq_true rfl)) dX12_tries_237 ⟨Nat.le_of_ble_eq_true rfl, Nat.le_of_ble_eq_true rfl⟩) hS (fun q _ h => hFc q h) hFc (fun u t H1 locs ht hvm hw_68 hB hz1 hk1 hS => ?_)
                obtain ⟨u_69, u_70⟩ := u
                obtain ⟨hf_71, hP1, hD1⟩ := hB
                rw [ht] at hP1
                try dsimp only at hw_68
                obtain ⟨hP, hD⟩ := va_join (wr := []) (w1 := [(h0, .inr (12, mG q i_taped i_size i_sort i_what i_at i_end i_worth i_faultKind i_faultPlace i_got i_worked (nI dl) i_isPlanned i_bestDone i_bestCost)), (q 51, .inl (E.2.1 0, 512, .inl u_69)), (q 52, .inl (E.2.1 0, 512, .inl u_70)), (q 49, .inl (E.2.1 0, 100, .inl a_flights)), (q 42, .inl (E.2.1 0, 7, .inl a_dFrom)), (q 43, .inl (E.2.1 0, 7, .inl a_dTo)), (q 44, .inl (E.2.1 0, 7, .inl a_dDays)), (q 45, .inl (E.2.1 0, 7, .inl a_dFirst)), (q 46, .inl (E.2.1 0, 7, .inl a_dLast))]) hP hD [0, 1, 2, 3, 4, 5, 6, 7, 8] [] rfl rfl (by decide) (by decide) hk1 hFc hP1 hD1
                generalize H1 = H at hP hS ⊢
                have hP : va_P E.1 vwCl [(h0, .inr (12, mG q i_taped i_size i_sort i_what i_at i_end i_worth i_faultKind i_faultPlace i_got i_worked (nI dl) i_isPlanned i_bestDone i_bestCost)), (q 51, .inl (E.2.1 0, 512, .inl u_69)), (q 52, .inl (E.2.1 0, 512, .inl u_70)), (q 49, .inl (E.2.1 0, 100, .inl a_flights)), (q 42, .inl (E.2.1 0, 7, .inl a_dFrom)), (q 43, .inl (E.2.1 0, 7, .inl a_dTo)), (q 44, .inl (E.2.1 0, 7, .inl a_dDays)), (q 45, .inl (E.2.1 0, 7, .inl a_dFirst)), (q 46, .inl (E.2.1 0, 7, .inl a_dLast))] H := hP
                have hD : va_D A [(h0, .inr (12, mG q i_taped i_size i_sort i_what i_at i_end i_worth i_faultKind i_faultPlace i_got i_worked (nI dl) i_isPlanned i_bestDone i_bestCost)), (q 51, .inl (E.2.1 0, 512, .inl u_69)), (q 52, .inl (E.2.1 0, 512, .inl u_70)), (q 49, .inl (E.2.1 0, 100, .inl a_flights)), (q 42, .inl (E.2.1 0, 7, .inl a_dFrom)), (q 43, .inl (E.2.1 0, 7, .inl a_dTo)), (q 44, .inl (E.2.1 0, 7, .inl a_dDays)), (q 45, .inl (E.2.1 0, 7, .inl a_dFirst)), (q 46, .inl (E.2.1 0, 7, .inl a_dLast))] := hD
                refine lv_iinc (v := (nI (k + 1))) (lv' := [(8, .int (nI (k + 1))), (10, .int x_18), (9, .int x_18), (0, .ref h0), (1, .int (nI cr)), (2, .int (nI po)), (3, .int da), (4, .int (nI se_)), (5, .int (nI ro)), (6, .int co_)]) hx hb dX12_tries_240 hl (k := 9) rfl (show nI k + 1 = nI (k + 1) from nI_1 k) (by decide) rfl (fun ls hl => ?_)
                refine lv_goto (tgt := 78) hx hb dX12_tries_243 (by decide) ?_
                exact ih (k + 1) u_69 u_70 _ _ _ (by omega) (by omega) hf_71 (hP.sub [0, 1, 2, 3, 4, 5, 6, 7, 8] rfl) (hD.sub [0, 1, 2, 3, 4, 5, 6, 7, 8] (by decide) rfl) hS (lv_sub hl [3, 4, 5, 6, 7, 8, 9, 0] rfl)
              · refine lv_goto (tgt := 240) hx hb dX12_tries_180 (by decide) ?_
                refine lv_iinc (v := (nI (k + 1))) (lv' := [(8, .int (nI (k + 1))), (10, .int x_18), (9, .int x_18), (0, .ref h0), (1, .int (nI cr)), (2, .int (nI po)), (3, .int da), (4, .int (nI se_)), (5, .int (nI ro)), (6, .int co_)]) hx hb dX12_tries_240 hl (k := 9) rfl (show nI k + 1 = nI (k + 1) from nI_1 k) (by decide) rfl (fun ls hl => ?_)
                refine lv_goto (tgt := 78) hx hb dX12_tries_243 (by decide) ?_
                exact ih (k + 1) a_least a_order _ _ _ (by omega) (by omega) hI_order (hP.sub [0, 1, 2, 3, 4, 5, 6, 7, 8] rfl) (hD.sub [0, 1, 2, 3, 4, 5, 6, 7, 8] (by decide) rfl) hS (lv_sub hl [3, 4, 5, 6, 7, 8, 9, 0] rfl)
          · refine lv_iconst (v := 0) hx hb dX12_tries_134 (by decide) ?_
            refine lv_goto (tgt := 139) hx hb dX12_tries_135 (by decide) ?_
            refine lv_iadd hx hb dX12_tries_139 ?_
            refine lv_topi (fun x_72 ex_72 => ?_)
            refine lv_istore (lv' := [(9, .int x_72), (0, .ref h0), (1, .int (nI cr)), (2, .int (nI po)), (3, .int da), (4, .int (nI se_)), (5, .int (nI ro)), (6, .int co_), (8, .int (nI k))]) hx hb dX12_tries_140 hl (by decide) rfl (fun ls hl => ?_)
            refine lv_iload hx hb dX12_tries_142 (lv_at hl 0 rfl) ?_
            refine lv_aload_n hx hb dX12_tries_144 rfl (lv_at hl 1 rfl) ?_
            refine va_get (D := E.1) (ci := 12) (v := .ref (q 45)) (C := RX12) (T := TX12) (N := 59) hx hb hts inX12 hown hK hP 0 rfl rfl 45 (by decide) fl115 (fun _ h9 => h9) rfl dX12_tries_145 ?_
            refine lv_iload hx hb dX12_tries_148 (lv_at hl 8 rfl) ?_
            refine va_iald hx hb hK hP 7 0 rfl rfl hi_6 dX12_tries_150 ?_
            refine lv_topi (fun x_73 ex_73 => ?_)
            refine lv_icmp_le (tgt := 159) hx hb dX12_tries_151 (by decide) (fun c_74 => ?_) (fun c_74 => ?_)
            · refine lv_aload_n hx hb dX12_tries_159 rfl (lv_at hl 1 rfl) ?_
              refine va_get (D := E.1) (ci := 12) (v := .ref (q 45)) (C := RX12) (T := TX12) (N := 59) hx hb hts inX12 hown hK hP 0 rfl rfl 45 (by decide) fl115 (fun _ h9 => h9) rfl dX12_tries_160 ?_
              refine lv_iload hx hb dX12_tries_163 (lv_at hl 8 rfl) ?_
              refine va_iald hx hb hK hP 7 0 rfl rfl hi_6 dX12_tries_165 ?_
              refine lv_topi (fun x_75 ex_75 => ?_)
              refine lv_istore (lv' := [(10, .int x_75), (9, .int x_72), (0, .ref h0), (1, .int (nI cr)), (2, .int (nI po)), (3, .int da), (4, .int (nI se_)), (5, .int (nI ro)), (6, .int co_), (8, .int (nI k))]) hx hb dX12_tries_166 hl (by decide) rfl (fun ls hl => ?_)
              refine lv_iload hx hb dX12_tries_168 (lv_at hl 0 rfl) ?_
              refine lv_aload_n hx hb dX12_tries_170 rfl (lv_at hl 2 rfl) ?_
              refine va_get (D := E.1) (ci := 12) (v := .ref (q 46)) (C := RX12) (T := TX12) (N := 59) hx hb hts inX12 hown hK hP 0 rfl rfl 46 (by decide) fl118 (fun _ h9 => h9) rfl dX12_tries_171 ?_
              refine lv_iload hx hb dX12_tries_174 (lv_at hl 9 rfl) ?_
              refine va_iald hx hb hK hP 8 0 rfl rfl hi_6 dX12_tries_176 ?_
              refine lv_topi (fun x_76 ex_76 => ?_)
              refine lv_icmp_le (tgt := 183) hx hb dX12_tries_177 (by decide) (fun c_77 => ?_) (fun c_77 => ?_)
              · refine lv_aload_n hx hb dX12_tries_183 rfl (lv_at hl 2 rfl) ?_
                refine lv_iload_n hx hb dX12_tries_184 rfl (lv_at hl 3 rfl) ?_
                refine lv_aload_n hx hb dX12_tries_185 rfl (lv_at hl 2 rfl) ?_
                refine va_get (D := E.1) (ci := 12) (v := .ref (q 43)) (C := RX12) (T := TX12) (N := 59) hx hb hts inX12 hown hK hP 0 rfl rfl 43 (by decide) fl109 (fun _ h9 => h9) rfl dX12_tries_186 ?_
                refine lv_iload hx hb dX12_tries_189 (lv_at hl 9 rfl) ?_
                refine va_iald hx hb hK hP 5 0 rfl rfl hi_6 dX12_tries_191 ?_
                refine lv_topi (fun x_78 ex_78 => ?_)
                have hv_79 : inR x_78 0 9 = true := by rw [ex_78]; exact hI_dTo _ (vin_cl hi_6)
                obtain ⟨w_80, hw_81, ew_82⟩ := inR_nI (n := 9) (by decide) hv_79
                subst ew_82
                refine lv_iload hx hb dX12_tries_192 (lv_at hl 0 rfl) ?_
                refine lv_aload_n hx hb dX12_tries_194 rfl (lv_at hl 2 rfl) ?_
                refine va_get (D := E.1) (ci := 12) (v := .ref (q 44)) (C := RX12) (T := TX12) (N := 59) hx hb hts inX12 hown hK hP 0 rfl rfl 44 (by decide) fl112 (fun _ h9 => h9) rfl dX12_tries_195 ?_
                refine lv_iload hx hb dX12_tries_198 (lv_at hl 9 rfl) ?_
                refine va_iald hx hb hK hP 6 0 rfl rfl hi_6 dX12_tries_200 ?_
                refine lv_topi (fun x_83 ex_83 => ?_)
                refine lv_iadd hx hb dX12_tries_201 ?_
                refine lv_topi (fun x_84 ex_84 => ?_)
                refine lv_iload hx hb dX12_tries_202 (lv_at hl 6 rfl) ?_
                refine lv_iconst (v := 1) hx hb dX12_tries_204 (by decide) ?_
                refine lv_iload hx hb dX12_tries_205 (lv_at hl 9 rfl) ?_
                refine lv_ishl hx hb dX12_tries_207 ?_
                refine lv_topi (fun x_85 ex_85 => ?_)
                refine lv_ior hx hb dX12_tries_208 ?_
                refine lv_topi (fun x_86 ex_86 => ?_)
                obtain ⟨w_87, hw_88, hw_88b, hw_88e⟩ : ∃ w, w < 128 ∧ bc7 w = 5 + 1 ∧ x_86 = nI w := by rw [ex_86, ex_85]; exact tr_bit hse hlt hbc (by rw [ex_3, ex_2] at c_4; exact c_4)
                subst hw_88e
                refine lv_bipush (v := 8) hx hb dX12_tries_209 (by decide) ?_
                refine lv_iload hx hb dX12_tries_211 (lv_at hl 7 rfl) ?_
                refine lv_imul hx hb dX12_tries_213 ?_
                refine lv_topi (fun x_89 ex_89 => ?_)
                obtain rfl : x_89 = nI (8 * ro) := ex_89.trans (pk_mul 8 ro)
                refine lv_iload hx hb dX12_tries_214 (lv_at hl 9 rfl) ?_
                refine lv_iadd hx hb dX12_tries_216 ?_
                refine lv_topi (fun x_90 ex_90 => ?_)
                obtain rfl : x_90 = nI ((8 * ro) + k) := ex_90.trans (nI_add (8 * ro) k)
                refine lv_iload hx hb dX12_tries_217 (lv_at hl 8 rfl) ?_
                refine lv_aload_n hx hb dX12_tries_219 rfl (lv_at hl 2 rfl) ?_
                refine va_get (D := E.1) (ci := 12) (v := .ref (q 49)) (C := RX12) (T := TX12) (N := 59) hx hb hts inX12 hown hK hP 0 rfl rfl 49 (by decide) fl127 (fun _ h9 => h9) rfl dX12_tries_220 ?_
                refine lv_bipush (v := 10) hx hb dX12_tries_223 (by decide) ?_
                refine lv_iload_n hx hb dX12_tries_225 rfl (lv_at hl 4 rfl) ?_
                refine lv_imul hx hb dX12_tries_226 ?_
                refine lv_topi (fun x_91 ex_91 => ?_)
                obtain rfl : x_91 = nI (10 * po) := ex_91.trans (pk_mul 10 po)
                refine lv_aload_n hx hb dX12_tries_227 rfl (lv_at hl 2 rfl) ?_
                refine va_get (D := E.1) (ci := 12) (v := .ref (q 42)) (C := RX12) (T := TX12) (N := 59) hx hb hts inX12 hown hK hP 0 rfl rfl 42 (by decide) fl106 (fun _ h9 => h9) rfl dX12_tries_228 ?_
                refine lv_iload hx hb dX12_tries_231 (lv_at hl 9 rfl) ?_
                refine va_iald hx hb hK hP 4 0 rfl rfl hi_6 dX12_tries_233 ?_
                refine lv_topi (fun x_92 ex_92 => ?_)
                obtain rfl : x_92 = nI w_9 := ex_92.trans ex_7.symm
                refine lv_iadd hx hb dX12_tries_234 ?_
                refine lv_topi (fun x_93 ex_93 => ?_)
                obtain rfl : x_93 = nI ((10 * po) + w_9) := ex_93.trans (nI_add (10 * po) w_9)
                refine va_iald hx hb hK hP 3 0 rfl rfl hi_13 dX12_tries_235 ?_
                refine lv_topi (fun x_94 ex_94 => ?_)
                refine lv_iadd hx hb dX12_tries_236 ?_
                refine lv_topi (fun x_95 ex_95 => ?_)
                have hPc := hP.sub (ws' := [(h0, .inr (12, mG q i_taped i_size i_sort i_what i_at i_end i_worth i_faultKind i_faultPlace i_got i_worked (nI dl) i_isPlanned i_bestDone i_bestCost)), (q 51, .inl (E.2.1 0, 512, .inl a_least)), (q 52, .inl (E.2.1 0, 512, .inl a_order)), (q 49, .inl (E.2.1 0, 100, .inl a_flights)), (q 42, .inl (E.2.1 0, 7, .inl a_dFrom)), (q 43, .inl (E.2.1 0, 7, .inl a_dTo)), (q 44, .inl (E.2.1 0, 7, .inl a_dDays)), (q 45, .inl (E.2.1 0, 7, .inl a_dFirst)), (q 46, .inl (E.2.1 0, 7, .inl a_dLast))]) [0, 1, 2, 3, 4, 5, 6, 7, 8] rfl
                have hDc := hD.sub (ws' := [(h0, .inr (12, mG q i_taped i_size i_sort i_what i_at i_end i_worth i_faultKind i_faultPlace i_got i_worked (nI dl) i_isPlanned i_bestDone i_bestCost)), (q 51, .inl (E.2.1 0, 512, .inl a_least)), (q 52, .inl (E.2.1 0, 512, .inl a_order)), (q 49, .inl (E.2.1 0, 100, .inl a_flights)), (q 42, .inl (E.2.1 0, 7, .inl a_dFrom)), (q 43, .inl (E.2.1 0, 7, .inl a_dTo)), (q 44, .inl (E.2.1 0, 7, .inl a_dDays)), (q 45, .inl (E.2.1 0, 7, .inl a_dFirst)), (q 46, .inl (E.2.1 0, 7, .inl a_dLast))]) [0, 1, 2, 3, 4, 5, 6, 7, 8] (by decide) rfl
                have hFc := va_free (wc := [(h0, .inr (12, mG q i_taped i_size i_sort i_what i_at i_end i_worth i_faultKind i_faultPlace i_got i_worked (nI dl) i_isPlanned i_bestDone i_bestCost)), (q 51, .inl (E.2.1 0, 512, .inl a_least)), (q 52, .inl (E.2.1 0, 512, .inl a_order)), (q 49, .inl (E.2.1 0, 100, .inl a_flights)), (q 42, .inl (E.2.1 0, 7, .inl a_dFrom)), (q 43, .inl (E.2.1 0, 7, .inl a_dTo)), (q 44, .inl (E.2.1 0, 7, .inl a_dDays)), (q 45, .inl (E.2.1 0, 7, .inl a_dFirst)), (q 46, .inl (E.2.1 0, 7, .inl a_dLast))]) hD hS hA [0, 1, 2, 3, 4, 5, 6, 7, 8] rfl
                refine va_callv (va_runV (As := [.int (nI cr), .int (nI w_80), .int x_84, .int (nI w_87), .int (nI ((8 * ro) + k)), .int x_95]) (rest := []) ⟨hx, hb, hml, hown, hts⟩ (c_X12_tries6 l E h0 q i_taped i_size i_sort i_what i_at i_end i_worth i_faultKind i_faultPlace i_got i_worked i_isPlanned i_bestDone i_bestCost dl cr w_80 w_87 ((8 * ro) + k) a_least a_order a_flights a_dFrom a_dTo a_dDays a_dFirst a_dLast x_84 x_95 H.size hcr (by omega) hw_88 hdl hw_88b (dg_step hro hlt) hI_order hI_dFrom hI_dTo) (cwV 6 hts gX12_tries_X12_tries rfl rfl rfl hdV_X12_tries ⟨Nat.le_of_ble_eq_true rfl, Nat.le_of_ble_eq_true rfl⟩) ⟨pcW_blind, va_recv hK hPc (ci := 12) (q0 := 0) rfl rfl, (pcW_pre hPc hkn hDc hst hS hFc)⟩ rfl rfl hl.1 rfl (lv_room (Nat.le_of_ble_eq_true rfl)) dX12_tries_237 ⟨Nat.le_of_ble_eq_true rfl, Nat.le_of_ble_eq_true rfl⟩) hS (fun q _ h => hFc q h) hFc (fun u t H1 locs ht hvm hw_97 hB hz1 hk1 hS => ?_)
                obtain ⟨u_98, u_99⟩ := u
                obtain ⟨hf_100, hP1, hD1⟩ := hB
                rw [ht] at hP1
                try dsimp only at hw_97
                obtain ⟨hP, hD⟩ := va_join (wr := []) (w1 := [(h0, .inr (12, mG q i_taped i_size i_sort i_what i_at i_end i_worth i_faultKind i_faultPlace i_got i_worked (nI dl) i_isPlanned i_bestDone i_bestCost)), (q 51, .inl (E.2.1 0, 512, .inl u_98)), (q 52, .inl (E.2.1 0, 512, .inl u_99)), (q 49, .inl (E.2.1 0, 100, .inl a_flights)), (q 42, .inl (E.2.1 0, 7, .inl a_dFrom)), (q 43, .inl (E.2.1 0, 7, .inl a_dTo)), (q 44, .inl (E.2.1 0, 7, .inl a_dDays)), (q 45, .inl (E.2.1 0, 7, .inl a_dFirst)), (q 46, .inl (E.2.1 0, 7, .inl a_dLast))]) hP hD [0, 1, 2, 3, 4, 5, 6, 7, 8] [] rfl rfl (by decide) (by decide) hk1 hFc hP1 hD1
                generalize H1 = H at hP hS ⊢
                have hP : va_P E.1 vwCl [(h0, .inr (12, mG q i_taped i_size i_sort i_what i_at i_end i_worth i_faultKind i_faultPlace i_got i_worked (nI dl) i_isPlanned i_bestDone i_bestCost)), (q 51, .inl (E.2.1 0, 512, .inl u_98)), (q 52, .inl (E.2.1 0, 512, .inl u_99)), (q 49, .inl (E.2.1 0, 100, .inl a_flights)), (q 42, .inl (E.2.1 0, 7, .inl a_dFrom)), (q 43, .inl (E.2.1 0, 7, .inl a_dTo)), (q 44, .inl (E.2.1 0, 7, .inl a_dDays)), (q 45, .inl (E.2.1 0, 7, .inl a_dFirst)), (q 46, .inl (E.2.1 0, 7, .inl a_dLast))] H := hP
                have hD : va_D A [(h0, .inr (12, mG q i_taped i_size i_sort i_what i_at i_end i_worth i_faultKind i_faultPlace i_got i_worked (nI dl) i_isPlanned i_bestDone i_bestCost)), (q 51, .inl (E.2.1 0, 512, .inl u_98)), (q 52, .inl (E.2.1 0, 512, .inl u_99)), (q 49, .inl (E.2.1 0, 100, .inl a_flights)), (q 42, .inl (E.2.1 0, 7, .inl a_dFrom)), (q 43, .inl (E.2.1 0, 7, .inl a_dTo)), (q 44, .inl (E.2.1 0, 7, .inl a_dDays)), (q 45, .inl (E.2.1 0, 7, .inl a_dFirst)), (q 46, .inl (E.2.1 0, 7, .inl a_dLast))] := hD
                refine lv_iinc (v := (nI (k + 1))) (lv' := [(8, .int (nI (k + 1))), (10, .int x_75), (9, .int x_72), (0, .ref h0), (1, .int (nI cr)), (2, .int (nI po)), (3, .int da), (4, .int (nI se_)), (5, .int (nI ro)), (6, .int co_)]) hx hb dX12_tries_240 hl (k := 9) rfl (show nI k + 1 = nI (k + 1) from nI_1 k) (by decide) rfl (fun ls hl => ?_)
                refine lv_goto (tgt := 78) hx hb dX12_tries_243 (by decide) ?_
                exact ih (k + 1) u_98 u_99 _ _ _ (by omega) (by omega) hf_100 (hP.sub [0, 1, 2, 3, 4, 5, 6, 7, 8] rfl) (hD.sub [0, 1, 2, 3, 4, 5, 6, 7, 8] (by decide) rfl) hS (lv_sub hl [3, 4, 5, 6, 7, 8, 9, 0] rfl)
              · refine lv_goto (tgt := 240) hx hb dX12_tries_180 (by decide) ?_
                refine lv_iinc (v := (nI (k + 1))) (lv' := [(8, .int (nI (k + 1))), (10, .int x_75), (9, .int x_72), (0, .ref h0), (1, .int (nI cr)), (2, .int (nI po)), (3, .int da), (4, .int (nI se_)), (5, .int (nI ro)), (6, .int co_)]) hx hb dX12_tries_240 hl (k := 9) rfl (show nI k + 1 = nI (k + 1) from nI_1 k) (by decide) rfl (fun ls hl => ?_)
                refine lv_goto (tgt := 78) hx hb dX12_tries_243 (by decide) ?_
                exact ih (k + 1) a_least a_order _ _ _ (by omega) (by omega) hI_order (hP.sub [0, 1, 2, 3, 4, 5, 6, 7, 8] rfl) (hD.sub [0, 1, 2, 3, 4, 5, 6, 7, 8] (by decide) rfl) hS (lv_sub hl [3, 4, 5, 6, 7, 8, 9, 0] rfl)
            · refine lv_iload hx hb dX12_tries_154 (lv_at hl 0 rfl) ?_
              refine lv_goto (tgt := 166) hx hb dX12_tries_156 (by decide) ?_
              refine lv_istore (lv' := [(10, .int x_72), (9, .int x_72), (0, .ref h0), (1, .int (nI cr)), (2, .int (nI po)), (3, .int da), (4, .int (nI se_)), (5, .int (nI ro)), (6, .int co_), (8, .int (nI k))]) hx hb dX12_tries_166 hl (by decide) rfl (fun ls hl => ?_)
              refine lv_iload hx hb dX12_tries_168 (lv_at hl 0 rfl) ?_
              refine lv_aload_n hx hb dX12_tries_170 rfl (lv_at hl 2 rfl) ?_
              refine va_get (D := E.1) (ci := 12) (v := .ref (q 46)) (C := RX12) (T := TX12) (N := 59) hx hb hts inX12 hown hK hP 0 rfl rfl 46 (by decide) fl118 (fun _ h9 => h9) rfl dX12_tries_171 ?_
              refine lv_iload hx hb dX12_tries_174 (lv_at hl 9 rfl) ?_
              refine va_iald hx hb hK hP 8 0 rfl rfl hi_6 dX12_tries_176 ?_
              refine lv_topi (fun x_101 ex_101 => ?_)
              refine lv_icmp_le (tgt := 183) hx hb dX12_tries_177 (by decide) (fun c_102 => ?_) (fun c_102 => ?_)
              · refine lv_aload_n hx hb dX12_tries_183 rfl (lv_at hl 2 rfl) ?_
                refine lv_iload_n hx hb dX12_tries_184 rfl (lv_at hl 3 rfl) ?_
                refine lv_aload_n hx hb dX12_tries_185 rfl (lv_at hl 2 rfl) ?_
                refine va_get (D := E.1) (ci := 12) (v := .ref (q 43)) (C := RX12) (T := TX12) (N := 59) hx hb hts inX12 hown hK hP 0 rfl rfl 43 (by decide) fl109 (fun _ h9 => h9) rfl dX12_tries_186 ?_
                refine lv_iload hx hb dX12_tries_189 (lv_at hl 9 rfl) ?_
                refine va_iald hx hb hK hP 5 0 rfl rfl hi_6 dX12_tries_191 ?_
                refine lv_topi (fun x_103 ex_103 => ?_)
                have hv_104 : inR x_103 0 9 = true := by rw [ex_103]; exact hI_dTo _ (vin_cl hi_6)
                obtain ⟨w_105, hw_106, ew_107⟩ := inR_nI (n := 9) (by decide) hv_104
                subst ew_107
                refine lv_iload hx hb dX12_tries_192 (lv_at hl 0 rfl) ?_
                refine lv_aload_n hx hb dX12_tries_194 rfl (lv_at hl 2 rfl) ?_
                refine va_get (D := E.1) (ci := 12) (v := .ref (q 44)) (C := RX12) (T := TX12) (N := 59) hx hb hts inX12 hown hK hP 0 rfl rfl 44 (by decide) fl112 (fun _ h9 => h9) rfl dX12_tries_195 ?_
                refine lv_iload hx hb dX12_tries_198 (lv_at hl 9 rfl) ?_
                refine va_iald hx hb hK hP 6 0 rfl rfl hi_6 dX12_tries_200 ?_
                refine lv_topi (fun x_108 ex_108 => ?_)
                refine lv_iadd hx hb dX12_tries_201 ?_
                refine lv_topi (fun x_109 ex_109 => ?_)
                refine lv_iload hx hb dX12_tries_202 (lv_at hl 6 rfl) ?_
                refine lv_iconst (v := 1) hx hb dX12_tries_204 (by decide) ?_
                refine lv_iload hx hb dX12_tries_205 (lv_at hl 9 rfl) ?_
                refine lv_ishl hx hb dX12_tries_207 ?_
                refine lv_topi (fun x_110 ex_110 => ?_)
                refine lv_ior hx hb dX12_tries_208 ?_
                refine lv_topi (fun x_111 ex_111 => ?_)
                obtain ⟨w_112, hw_113, hw_113b, hw_113e⟩ : ∃ w, w < 128 ∧ bc7 w = 5 + 1 ∧ x_111 = nI w := by rw [ex_111, ex_110]; exact tr_bit hse hlt hbc (by rw [ex_3, ex_2] at c_4; exact c_4)
                subst hw_113e
                refine lv_bipush (v := 8) hx hb dX12_tries_209 (by decide) ?_
                refine lv_iload hx hb dX12_tries_211 (lv_at hl 7 rfl) ?_
                refine lv_imul hx hb dX12_tries_213 ?_
                refine lv_topi (fun x_114 ex_114 => ?_)
                obtain rfl : x_114 = nI (8 * ro) := ex_114.trans (pk_mul 8 ro)
                refine lv_iload hx hb dX12_tries_214 (lv_at hl 9 rfl) ?_
                refine lv_iadd hx hb dX12_tries_216 ?_
                refine lv_topi (fun x_115 ex_115 => ?_)
                obtain rfl : x_115 = nI ((8 * ro) + k) := ex_115.trans (nI_add (8 * ro) k)
                refine lv_iload hx hb dX12_tries_217 (lv_at hl 8 rfl) ?_
                refine lv_aload_n hx hb dX12_tries_219 rfl (lv_at hl 2 rfl) ?_
                refine va_get (D := E.1) (ci := 12) (v := .ref (q 49)) (C := RX12) (T := TX12) (N := 59) hx hb hts inX12 hown hK hP 0 rfl rfl 49 (by decide) fl127 (fun _ h9 => h9) rfl dX12_tries_220 ?_
                refine lv_bipush (v := 10) hx hb dX12_tries_223 (by decide) ?_
                refine lv_iload_n hx hb dX12_tries_225 rfl (lv_at hl 4 rfl) ?_
                refine lv_imul hx hb dX12_tries_226 ?_
                refine lv_topi (fun x_116 ex_116 => ?_)
                obtain rfl : x_116 = nI (10 * po) := ex_116.trans (pk_mul 10 po)
                refine lv_aload_n hx hb dX12_tries_227 rfl (lv_at hl 2 rfl) ?_
                refine va_get (D := E.1) (ci := 12) (v := .ref (q 42)) (C := RX12) (T := TX12) (N := 59) hx hb hts inX12 hown hK hP 0 rfl rfl 42 (by decide) fl106 (fun _ h9 => h9) rfl dX12_tries_228 ?_
                refine lv_iload hx hb dX12_tries_231 (lv_at hl 9 rfl) ?_
                refine va_iald hx hb hK hP 4 0 rfl rfl hi_6 dX12_tries_233 ?_
                refine lv_topi (fun x_117 ex_117 => ?_)
                obtain rfl : x_117 = nI w_9 := ex_117.trans ex_7.symm
                refine lv_iadd hx hb dX12_tries_234 ?_
                refine lv_topi (fun x_118 ex_118 => ?_)
                obtain rfl : x_118 = nI ((10 * po) + w_9) := ex_118.trans (nI_add (10 * po) w_9)
                refine va_iald hx hb hK hP 3 0 rfl rfl hi_13 dX12_tries_235 ?_
                refine lv_topi (fun x_119 ex_119 => ?_)
                refine lv_iadd hx hb dX12_tries_236 ?_
                refine lv_topi (fun x_120 ex_120 => ?_)
                have hPc := hP.sub (ws' := [(h0, .inr (12, mG q i_taped i_size i_sort i_what i_at i_end i_worth i_faultKind i_faultPlace i_got i_worked (nI dl) i_isPlanned i_bestDone i_bestCost)), (q 51, .inl (E.2.1 0, 512, .inl a_least)), (q 52, .inl (E.2.1 0, 512, .inl a_order)), (q 49, .inl (E.2.1 0, 100, .inl a_flights)), (q 42, .inl (E.2.1 0, 7, .inl a_dFrom)), (q 43, .inl (E.2.1 0, 7, .inl a_dTo)), (q 44, .inl (E.2.1 0, 7, .inl a_dDays)), (q 45, .inl (E.2.1 0, 7, .inl a_dFirst)), (q 46, .inl (E.2.1 0, 7, .inl a_dLast))]) [0, 1, 2, 3, 4, 5, 6, 7, 8] rfl
                have hDc := hD.sub (ws' := [(h0, .inr (12, mG q i_taped i_size i_sort i_what i_at i_end i_worth i_faultKind i_faultPlace i_got i_worked (nI dl) i_isPlanned i_bestDone i_bestCost)), (q 51, .inl (E.2.1 0, 512, .inl a_least)), (q 52, .inl (E.2.1 0, 512, .inl a_order)), (q 49, .inl (E.2.1 0, 100, .inl a_flights)), (q 42, .inl (E.2.1 0, 7, .inl a_dFrom)), (q 43, .inl (E.2.1 0, 7, .inl a_dTo)), (q 44, .inl (E.2.1 0, 7, .inl a_dDays)), (q 45, .inl (E.2.1 0, 7, .inl a_dFirst)), (q 46, .inl (E.2.1 0, 7, .inl a_dLast))]) [0, 1, 2, 3, 4, 5, 6, 7, 8] (by decide) rfl
                have hFc := va_free (wc := [(h0, .inr (12, mG q i_taped i_size i_sort i_what i_at i_end i_worth i_faultKind i_faultPlace i_got i_worked (nI dl) i_isPlanned i_bestDone i_bestCost)), (q 51, .inl (E.2.1 0, 512, .inl a_least)), (q 52, .inl (E.2.1 0, 512, .inl a_order)), (q 49, .inl (E.2.1 0, 100, .inl a_flights)), (q 42, .inl (E.2.1 0, 7, .inl a_dFrom)), (q 43, .inl (E.2.1 0, 7, .inl a_dTo)), (q 44, .inl (E.2.1 0, 7, .inl a_dDays)), (q 45, .inl (E.2.1 0, 7, .inl a_dFirst)), (q 46, .inl (E.2.1 0, 7, .inl a_dLast))]) hD hS hA [0, 1, 2, 3, 4, 5, 6, 7, 8] rfl
                refine va_callv (va_runV (As := [.int (nI cr), .int (nI w_105), .int x_109, .int (nI w_112), .int (nI ((8 * ro) + k)), .int x_120]) (rest := []) ⟨hx, hb, hml, hown, hts⟩ (c_X12_tries6 l E h0 q i_taped i_size i_sort i_what i_at i_end i_worth i_faultKind i_faultPlace i_got i_worked i_isPlanned i_bestDone i_bestCost dl cr w_105 w_112 ((8 * ro) + k) a_least a_order a_flights a_dFrom a_dTo a_dDays a_dFirst a_dLast x_109 x_120 H.size hcr (by omega) hw_113 hdl hw_113b (dg_step hro hlt) hI_order hI_dFrom hI_dTo) (cwV 6 hts gX12_tries_X12_tries rfl rfl rfl hdV_X12_tries ⟨Nat.le_of_ble_eq_true rfl, Nat.le_of_ble_eq_true rfl⟩) ⟨pcW_blind, va_recv hK hPc (ci := 12) (q0 := 0) rfl rfl, (pcW_pre hPc hkn hDc hst hS hFc)⟩ rfl rfl hl.1 rfl (lv_room (Nat.le_of_ble_eq_true rfl)) dX12_tries_237 ⟨Nat.le_of_ble_eq_true rfl, Nat.le_of_ble_eq_true rfl⟩) hS (fun q _ h => hFc q h) hFc (fun u t H1 locs ht hvm hw_122 hB hz1 hk1 hS => ?_)
                obtain ⟨u_123, u_124⟩ := u
                obtain ⟨hf_125, hP1, hD1⟩ := hB
                rw [ht] at hP1
                try dsimp only at hw_122
                obtain ⟨hP, hD⟩ := va_join (wr := []) (w1 := [(h0, .inr (12, mG q i_taped i_size i_sort i_what i_at i_end i_worth i_faultKind i_faultPlace i_got i_worked (nI dl) i_isPlanned i_bestDone i_bestCost)), (q 51, .inl (E.2.1 0, 512, .inl u_123)), (q 52, .inl (E.2.1 0, 512, .inl u_124)), (q 49, .inl (E.2.1 0, 100, .inl a_flights)), (q 42, .inl (E.2.1 0, 7, .inl a_dFrom)), (q 43, .inl (E.2.1 0, 7, .inl a_dTo)), (q 44, .inl (E.2.1 0, 7, .inl a_dDays)), (q 45, .inl (E.2.1 0, 7, .inl a_dFirst)), (q 46, .inl (E.2.1 0, 7, .inl a_dLast))]) hP hD [0, 1, 2, 3, 4, 5, 6, 7, 8] [] rfl rfl (by decide) (by decide) hk1 hFc hP1 hD1
                generalize H1 = H at hP hS ⊢
                have hP : va_P E.1 vwCl [(h0, .inr (12, mG q i_taped i_size i_sort i_what i_at i_end i_worth i_faultKind i_faultPlace i_got i_worked (nI dl) i_isPlanned i_bestDone i_bestCost)), (q 51, .inl (E.2.1 0, 512, .inl u_123)), (q 52, .inl (E.2.1 0, 512, .inl u_124)), (q 49, .inl (E.2.1 0, 100, .inl a_flights)), (q 42, .inl (E.2.1 0, 7, .inl a_dFrom)), (q 43, .inl (E.2.1 0, 7, .inl a_dTo)), (q 44, .inl (E.2.1 0, 7, .inl a_dDays)), (q 45, .inl (E.2.1 0, 7, .inl a_dFirst)), (q 46, .inl (E.2.1 0, 7, .inl a_dLast))] H := hP
                have hD : va_D A [(h0, .inr (12, mG q i_taped i_size i_sort i_what i_at i_end i_worth i_faultKind i_faultPlace i_got i_worked (nI dl) i_isPlanned i_bestDone i_bestCost)), (q 51, .inl (E.2.1 0, 512, .inl u_123)), (q 52, .inl (E.2.1 0, 512, .inl u_124)), (q 49, .inl (E.2.1 0, 100, .inl a_flights)), (q 42, .inl (E.2.1 0, 7, .inl a_dFrom)), (q 43, .inl (E.2.1 0, 7, .inl a_dTo)), (q 44, .inl (E.2.1 0, 7, .inl a_dDays)), (q 45, .inl (E.2.1 0, 7, .inl a_dFirst)), (q 46, .inl (E.2.1 0, 7, .inl a_dLast))] := hD
                refine lv_iinc (v := (nI (k + 1))) (lv' := [(8, .int (nI (k + 1))), (10, .int x_72), (9, .int x_72), (0, .ref h0), (1, .int (nI cr)), (2, .int (nI po)), (3, .int da), (4, .int (nI se_)), (5, .int (nI ro)), (6, .int co_)]) hx hb dX12_tries_240 hl (k := 9) rfl (show nI k + 1 = nI (k + 1) from nI_1 k) (by decide) rfl (fun ls hl => ?_)
                refine lv_goto (tgt := 78) hx hb dX12_tries_243 (by decide) ?_
                exact ih (k + 1) u_123 u_124 _ _ _ (by omega) (by omega) hf_125 (hP.sub [0, 1, 2, 3, 4, 5, 6, 7, 8] rfl) (hD.sub [0, 1, 2, 3, 4, 5, 6, 7, 8] (by decide) rfl) hS (lv_sub hl [3, 4, 5, 6, 7, 8, 9, 0] rfl)
              · refine lv_goto (tgt := 240) hx hb dX12_tries_180 (by decide) ?_
                refine lv_iinc (v := (nI (k + 1))) (lv' := [(8, .int (nI (k + 1))), (10, .int x_72), (9, .int x_72), (0, .ref h0), (1, .int (nI cr)), (2, .int (nI po)), (3, .int da), (4, .int (nI se_)), (5, .int (nI ro)), (6, .int co_)]) hx hb dX12_tries_240 hl (k := 9) rfl (show nI k + 1 = nI (k + 1) from nI_1 k) (by decide) rfl (fun ls hl => ?_)
                refine lv_goto (tgt := 78) hx hb dX12_tries_243 (by decide) ?_
                exact ih (k + 1) a_least a_order _ _ _ (by omega) (by omega) hI_order (hP.sub [0, 1, 2, 3, 4, 5, 6, 7, 8] rfl) (hD.sub [0, 1, 2, 3, 4, 5, 6, 7, 8] (by decide) rfl) hS (lv_sub hl [3, 4, 5, 6, 7, 8, 9, 0] rfl)
        · refine lv_goto (tgt := 240) hx hb dX12_tries_119 (by decide) ?_
          refine lv_iinc (v := (nI (k + 1))) (lv' := [(8, .int (nI (k + 1))), (0, .ref h0), (1, .int (nI cr)), (2, .int (nI po)), (3, .int da), (4, .int (nI se_)), (5, .int (nI ro)), (6, .int co_)]) hx hb dX12_tries_240 hl (k := 7) rfl (show nI k + 1 = nI (k + 1) from nI_1 k) (by decide) rfl (fun ls hl => ?_)
          refine lv_goto (tgt := 78) hx hb dX12_tries_243 (by decide) ?_
          exact ih (k + 1) a_least a_order _ _ _ (by omega) (by omega) hI_order (hP.sub [0, 1, 2, 3, 4, 5, 6, 7, 8] rfl) (hD.sub [0, 1, 2, 3, 4, 5, 6, 7, 8] (by decide) rfl) hS (lv_sub hl [1, 2, 3, 4, 5, 6, 7, 0] rfl)
set_option maxHeartbeats 4000000 in
set_option maxRecDepth 100000 in
theorem c_X12_tries5 (l : Launch) (E : vE) (h0 : Nat) (q : Nat → Nat) (i_taped : Int32) (i_size : Int32) (i_sort : Int32) (i_what : Int32) (i_at : Int32) (i_end : Int32) (i_worth : Int32) (i_faultKind : Int32) (i_faultPlace : Int32) (i_got : Int32) (i_worked : Int32) (i_isPlanned : Int32) (i_bestDone : Int32) (i_bestCost : Int32) (dl : Nat) (cr : Nat) (po : Nat) (se_ : Nat) (ro : Nat) (a_least : Nat → Int32) (a_order : Nat → Int32) (a_flights : Nat → Int32) (a_dFrom : Nat → Int32) (a_dTo : Nat → Int32) (a_dDays : Nat → Int32) (a_dFirst : Nat → Int32) (a_dLast : Nat → Int32) (da : Int32) (co_ : Int32) (sz : Nat) (hcr : cr < 4) (hpo : po ≤ 9) (hse : se_ < 128) (hdl : dl ≤ 7) (hbc : bc7 se_ = 5) (hro : dg ro 5) (hI_order : ∀ k : Nat, k < 512 → digOK (a_order k)) (hI_dFrom : ∀ k : Nat, k < 7 → inR (a_dFrom k) 0 9 = true) (hI_dTo : ∀ k : Nat, k < 7 → inR (a_dTo k) 0 9 = true) : Met l yX12_tries wsX12_tries ({ frames := 2, cells := 0, slots := 0, locals := 60 }) (pcW E [.ref h0, .int (nI cr), .int (nI po), .int da, .int (nI se_), .int (nI ro), .int co_] sz [(h0, .inr (12, mG q i_taped i_size i_sort i_what i_at i_end i_worth i_faultKind i_faultPlace i_got i_worked (nI dl) i_isPlanned i_bestDone i_bestCost)), (q 51, .inl (E.2.1 0, 512, .inl a_least)), (q 52, .inl (E.2.1 0, 512, .inl a_order)), (q 49, .inl (E.2.1 0, 100, .inl a_flights)), (q 42, .inl (E.2.1 0, 7, .inl a_dFrom)), (q 43, .inl (E.2.1 0, 7, .inl a_dTo)), (q 44, .inl (E.2.1 0, 7, .inl a_dDays)), (q 45, .inl (E.2.1 0, 7, .inl a_dFirst)), (q 46, .inl (E.2.1 0, 7, .inl a_dLast))]) (va_Qv (fun (u : (Nat → Int32) × (Nat → Int32)) => match u with | (b_least, b_order) => True) (fun (u : (Nat → Int32) × (Nat → Int32)) (t : State) => match u with | (b_least, b_order) => (∀ k : Nat, k < 512 → digOK (b_order k)) ∧ wB E (va_A [(h0, .inr (12, mG q i_taped i_size i_sort i_what i_at i_end i_worth i_faultKind i_faultPlace i_got i_worked (nI dl) i_isPlanned i_bestDone i_bestCost)), (q 51, .inl (E.2.1 0, 512, .inl a_least)), (q 52, .inl (E.2.1 0, 512, .inl a_order)), (q 49, .inl (E.2.1 0, 100, .inl a_flights)), (q 42, .inl (E.2.1 0, 7, .inl a_dFrom)), (q 43, .inl (E.2.1 0, 7, .inl a_dTo)), (q 44, .inl (E.2.1 0, 7, .inl a_dDays)), (q 45, .inl (E.2.1 0, 7, .inl a_dFirst)), (q 46, .inl (E.2.1 0, 7, .inl a_dLast))] sz) [(h0, .inr (12, mG q i_taped i_size i_sort i_what i_at i_end i_worth i_faultKind i_faultPlace i_got i_worked (nI dl) i_isPlanned i_bestDone i_bestCost)), (q 51, .inl (E.2.1 0, 512, .inl b_least)), (q 52, .inl (E.2.1 0, 512, .inl b_order)), (q 49, .inl (E.2.1 0, 100, .inl a_flights)), (q 42, .inl (E.2.1 0, 7, .inl a_dFrom)), (q 43, .inl (E.2.1 0, 7, .inl a_dTo)), (q 44, .inl (E.2.1 0, 7, .inl a_dDays)), (q 45, .inl (E.2.1 0, 7, .inl a_dFirst)), (q 46, .inl (E.2.1 0, 7, .inl a_dLast))] t) (va_A [(h0, .inr (12, mG q i_taped i_size i_sort i_what i_at i_end i_worth i_faultKind i_faultPlace i_got i_worked (nI dl) i_isPlanned i_bestDone i_bestCost)), (q 51, .inl (E.2.1 0, 512, .inl a_least)), (q 52, .inl (E.2.1 0, 512, .inl a_order)), (q 49, .inl (E.2.1 0, 100, .inl a_flights)), (q 42, .inl (E.2.1 0, 7, .inl a_dFrom)), (q 43, .inl (E.2.1 0, 7, .inl a_dTo)), (q 44, .inl (E.2.1 0, 7, .inl a_dDays)), (q 45, .inl (E.2.1 0, 7, .inl a_dFirst)), (q 46, .inl (E.2.1 0, 7, .inl a_dLast))] sz)) 0 0 (va_A [(h0, .inr (12, mG q i_taped i_size i_sort i_what i_at i_end i_worth i_faultKind i_faultPlace i_got i_worked (nI dl) i_isPlanned i_bestDone i_bestCost)), (q 51, .inl (E.2.1 0, 512, .inl a_least)), (q 52, .inl (E.2.1 0, 512, .inl a_order)), (q 49, .inl (E.2.1 0, 100, .inl a_flights)), (q 42, .inl (E.2.1 0, 7, .inl a_dFrom)), (q 43, .inl (E.2.1 0, 7, .inl a_dTo)), (q 44, .inl (E.2.1 0, 7, .inl a_dDays)), (q 45, .inl (E.2.1 0, 7, .inl a_dFirst)), (q 46, .inl (E.2.1 0, 7, .inl a_dLast))] sz) := by
  refine Met.ofW (cc := cX12_tries) (maxL := 11) (ret := none) (by decide) rfl ?_
  intro p e s m args below meth c s₁ B hml hv
  obtain ⟨rfl, hsz, hP, hkn, hD0, hst⟩ := hv
  have hx := B.exec
  have hb := B.bytes
  have hr := B.returns
  have hts := atoms_spec (ws := wsX12_tries) B.pre
  have hown : s.vm.findClass RX12 = some m.cls := findClass_of_methodNamed B.named
  have hlocks := B.notSynchronized
  subst hsz
  have hD := hD0.self (sz := s.heap.size)
  have hK := hkn.1
  have hAO := hkn.2.2.1
  generalize hAe : va_A [(h0, .inr (12, mG q i_taped i_size i_sort i_what i_at i_end i_worth i_faultKind i_faultPlace i_got i_worked (nI dl) i_isPlanned i_bestDone i_bestCost)), (q 51, .inl (E.2.1 0, 512, .inl a_least)), (q 52, .inl (E.2.1 0, 512, .inl a_order)), (q 49, .inl (E.2.1 0, 100, .inl a_flights)), (q 42, .inl (E.2.1 0, 7, .inl a_dFrom)), (q 43, .inl (E.2.1 0, 7, .inl a_dTo)), (q 44, .inl (E.2.1 0, 7, .inl a_dDays)), (q 45, .inl (E.2.1 0, 7, .inl a_dFirst)), (q 46, .inl (E.2.1 0, 7, .inl a_dLast))] s.heap.size = A at hD hst ⊢
  have hA : ∀ q : Nat, s.heap.size ≤ q → A q := fun q h => by rw [← hAe]; exact Or.inr h
  have hS : va_S A s.heap s.heap [] := va_S.rf
  have hP : va_P E.1 vwCl [(h0, .inr (12, mG q i_taped i_size i_sort i_what i_at i_end i_worth i_faultKind i_faultPlace i_got i_worked (nI dl) i_isPlanned i_bestDone i_bestCost)), (q 51, .inl (E.2.1 0, 512, .inl a_least)), (q 52, .inl (E.2.1 0, 512, .inl a_order)), (q 49, .inl (E.2.1 0, 100, .inl a_flights)), (q 42, .inl (E.2.1 0, 7, .inl a_dFrom)), (q 43, .inl (E.2.1 0, 7, .inl a_dTo)), (q 44, .inl (E.2.1 0, 7, .inl a_dDays)), (q 45, .inl (E.2.1 0, 7, .inl a_dFirst)), (q 46, .inl (E.2.1 0, 7, .inl a_dLast))] s.heap := hP
  have hl := lv_entry ([.ref h0, .int (nI cr), .int (nI po), .int da, .int (nI se_), .int (nI ro), .int co_]) (n := 11) (Nat.le_of_ble_eq_true rfl)
  rw [lg_entry_eq]
  generalize (lg_sl ([.ref h0, .int (nI cr), .int (nI po), .int da, .int (nI se_), .int (nI ro), .int co_]) ++ List.replicate (11 - (lg_sl ([.ref h0, .int (nI cr), .int (nI po), .int da, .int (nI se_), .int (nI ro), .int co_])).length) Slot.unset).toArray = ls at hl ⊢
  have hl : lv_has ls 11 [(0, .ref h0), (1, .int (nI cr)), (2, .int (nI po)), (3, .int da), (4, .int (nI se_)), (5, .int (nI ro)), (6, .int co_)] := hl
  have fl106 := hts (.fieldLink RX12 106 "BoatsHomeModel" "dFrom" "[I") (by first | exact List.mem_of_getElem? (i := 5) rfl | decide +kernel)
  have fl109 := hts (.fieldLink RX12 109 "BoatsHomeModel" "dTo" "[I") (by first | exact List.mem_of_getElem? (i := 8) rfl | decide +kernel)
  have fl112 := hts (.fieldLink RX12 112 "BoatsHomeModel" "dDays" "[I") (by first | exact List.mem_of_getElem? (i := 9) rfl | decide +kernel)
  have fl115 := hts (.fieldLink RX12 115 "BoatsHomeModel" "dFirst" "[I") (by first | exact List.mem_of_getElem? (i := 6) rfl | decide +kernel)
  have fl118 := hts (.fieldLink RX12 118 "BoatsHomeModel" "dLast" "[I") (by first | exact List.mem_of_getElem? (i := 7) rfl | decide +kernel)
  have fl127 := hts (.fieldLink RX12 127 "BoatsHomeModel" "flights" "[I") (by first | exact List.mem_of_getElem? (i := 4) rfl | decide +kernel)
  have fl130 := hts (.fieldLink RX12 130 "BoatsHomeModel" "least" "[I") (by first | exact List.mem_of_getElem? (i := 1) rfl | decide +kernel)
  have fl133 := hts (.fieldLink RX12 133 "BoatsHomeModel" "order" "[I") (by first | exact List.mem_of_getElem? (i := 2) rfl | decide +kernel)
  have fl289 := hts (.fieldLink RX12 289 "BoatsHomeModel" "deliveries" "I") (by first | exact List.mem_of_getElem? (i := 3) rfl | decide +kernel)
  have inX12 : ∀ w ∈ u_ws RX12 TX12 59, w ∈ wsX12_tries := by first | exact fun w h9 => (List.mem_cons_of_mem _ (List.mem_append_right _ h9)) | decide +kernel
  refine lv_sipush (v := 128) hx hb dX12_tries_0 (by decide) ?_
  refine lv_iload_n hx hb dX12_tries_3 rfl (lv_at hl 1 rfl) ?_
  refine lv_imul hx hb dX12_tries_4 ?_
  refine lv_topi (fun x_1 ex_1 => ?_)
  obtain rfl : x_1 = nI (128 * cr) := ex_1.trans (pk_mul 128 cr)
  refine lv_iload hx hb dX12_tries_5 (lv_at hl 4 rfl) ?_
  refine lv_iadd hx hb dX12_tries_7 ?_
  refine lv_topi (fun x_2 ex_2 => ?_)
  obtain rfl : x_2 = nI ((128 * cr) + se_) := ex_2.trans (nI_add (128 * cr) se_)
  refine lv_istore (lv' := [(7, .int (nI ((128 * cr) + se_))), (0, .ref h0), (1, .int (nI cr)), (2, .int (nI po)), (3, .int da), (4, .int (nI se_)), (5, .int (nI ro)), (6, .int co_)]) hx hb dX12_tries_8 hl (by decide) rfl (fun ls hl => ?_)
  refine lv_aload_n hx hb dX12_tries_10 rfl (lv_at hl 1 rfl) ?_
  refine va_get (D := E.1) (ci := 12) (v := .ref (q 51)) (C := RX12) (T := TX12) (N := 59) hx hb hts inX12 hown hK hP 0 rfl rfl 51 (by decide) fl130 (fun _ h9 => h9) rfl dX12_tries_11 ?_
  refine lv_iload hx hb dX12_tries_14 (lv_at hl 0 rfl) ?_
  have hi_3 : vp_in (nI ((128 * cr) + se_)) 512 := vp_in_nI (by omega) (by decide)
  refine va_iald hx hb hK hP 1 0 rfl rfl hi_3 dX12_tries_16 ?_
  refine lv_topi (fun x_4 ex_4 => ?_)
  refine lv_iconst (v := (-1)) hx hb dX12_tries_17 (by decide) ?_
  refine lv_icmp_eq (tgt := 57) hx hb dX12_tries_18 (by decide) (fun c_5 => ?_) (fun c_5 => ?_)
  · refine lv_aload_n hx hb dX12_tries_57 rfl (lv_at hl 1 rfl) ?_
    refine va_get (D := E.1) (ci := 12) (v := .ref (q 51)) (C := RX12) (T := TX12) (N := 59) hx hb hts inX12 hown hK hP 0 rfl rfl 51 (by decide) fl130 (fun _ h9 => h9) rfl dX12_tries_58 ?_
    refine lv_iload hx hb dX12_tries_61 (lv_at hl 0 rfl) ?_
    refine lv_iload hx hb dX12_tries_63 (lv_at hl 7 rfl) ?_
    refine va_iast hx hb hK hP hD hS 1 0 rfl rfl hi_3 dX12_tries_65 (fun H locs hP hD hS => ?_)
    have hP : va_P E.1 vwCl [(h0, .inr (12, mG q i_taped i_size i_sort i_what i_at i_end i_worth i_faultKind i_faultPlace i_got i_worked (nI dl) i_isPlanned i_bestDone i_bestCost)), (q 51, .inl (E.2.1 0, 512, .inl (upd a_least (nI ((128 * cr) + se_)).toNatClampNeg co_))), (q 52, .inl (E.2.1 0, 512, .inl a_order)), (q 49, .inl (E.2.1 0, 100, .inl a_flights)), (q 42, .inl (E.2.1 0, 7, .inl a_dFrom)), (q 43, .inl (E.2.1 0, 7, .inl a_dTo)), (q 44, .inl (E.2.1 0, 7, .inl a_dDays)), (q 45, .inl (E.2.1 0, 7, .inl a_dFirst)), (q 46, .inl (E.2.1 0, 7, .inl a_dLast))] H := hP
    have hD : va_D A [(h0, .inr (12, mG q i_taped i_size i_sort i_what i_at i_end i_worth i_faultKind i_faultPlace i_got i_worked (nI dl) i_isPlanned i_bestDone i_bestCost)), (q 51, .inl (E.2.1 0, 512, .inl (upd a_least (nI ((128 * cr) + se_)).toNatClampNeg co_))), (q 52, .inl (E.2.1 0, 512, .inl a_order)), (q 49, .inl (E.2.1 0, 100, .inl a_flights)), (q 42, .inl (E.2.1 0, 7, .inl a_dFrom)), (q 43, .inl (E.2.1 0, 7, .inl a_dTo)), (q 44, .inl (E.2.1 0, 7, .inl a_dDays)), (q 45, .inl (E.2.1 0, 7, .inl a_dFirst)), (q 46, .inl (E.2.1 0, 7, .inl a_dLast))] := hD
    obtain ⟨f_6, ef_6⟩ : ∃ g : Nat → Int32, g = upd a_least (nI ((128 * cr) + se_)).toNatClampNeg co_ := ⟨_, rfl⟩
    rw [← ef_6] at hP hD
    refine lv_aload_n hx hb dX12_tries_66 rfl (lv_at hl 1 rfl) ?_
    refine va_get (D := E.1) (ci := 12) (v := .ref (q 52)) (C := RX12) (T := TX12) (N := 59) hx hb hts inX12 hown hK hP 0 rfl rfl 52 (by decide) fl133 (fun _ h9 => h9) rfl dX12_tries_67 ?_
    refine lv_iload hx hb dX12_tries_70 (lv_at hl 0 rfl) ?_
    refine lv_iload hx hb dX12_tries_72 (lv_at hl 6 rfl) ?_
    refine va_iast hx hb hK hP hD hS 2 0 rfl rfl hi_3 dX12_tries_74 (fun H locs hP hD hS => ?_)
    have hP : va_P E.1 vwCl [(h0, .inr (12, mG q i_taped i_size i_sort i_what i_at i_end i_worth i_faultKind i_faultPlace i_got i_worked (nI dl) i_isPlanned i_bestDone i_bestCost)), (q 51, .inl (E.2.1 0, 512, .inl f_6)), (q 52, .inl (E.2.1 0, 512, .inl (upd a_order (nI ((128 * cr) + se_)).toNatClampNeg (nI ro)))), (q 49, .inl (E.2.1 0, 100, .inl a_flights)), (q 42, .inl (E.2.1 0, 7, .inl a_dFrom)), (q 43, .inl (E.2.1 0, 7, .inl a_dTo)), (q 44, .inl (E.2.1 0, 7, .inl a_dDays)), (q 45, .inl (E.2.1 0, 7, .inl a_dFirst)), (q 46, .inl (E.2.1 0, 7, .inl a_dLast))] H := hP
    have hD : va_D A [(h0, .inr (12, mG q i_taped i_size i_sort i_what i_at i_end i_worth i_faultKind i_faultPlace i_got i_worked (nI dl) i_isPlanned i_bestDone i_bestCost)), (q 51, .inl (E.2.1 0, 512, .inl f_6)), (q 52, .inl (E.2.1 0, 512, .inl (upd a_order (nI ((128 * cr) + se_)).toNatClampNeg (nI ro)))), (q 49, .inl (E.2.1 0, 100, .inl a_flights)), (q 42, .inl (E.2.1 0, 7, .inl a_dFrom)), (q 43, .inl (E.2.1 0, 7, .inl a_dTo)), (q 44, .inl (E.2.1 0, 7, .inl a_dDays)), (q 45, .inl (E.2.1 0, 7, .inl a_dFirst)), (q 46, .inl (E.2.1 0, 7, .inl a_dLast))] := hD
    obtain ⟨f_7, ef_7⟩ : ∃ g : Nat → Int32, g = upd a_order (nI ((128 * cr) + se_)).toNatClampNeg (nI ro) := ⟨_, rfl⟩
    rw [← ef_7] at hP hD
    have hI_8 : ∀ k : Nat, k < 512 → digOK (f_7 k) := by rw [ef_7]; exact all_upd (P := fun z => digOK z) hI_order (dg_OK hro (by decide))
    refine lv_iconst (v := 0) hx hb dX12_tries_75 (by decide) ?_
    refine lv_istore (lv' := [(8, .int 0), (7, .int (nI ((128 * cr) + se_))), (0, .ref h0), (1, .int (nI cr)), (2, .int (nI po)), (3, .int da), (4, .int (nI se_)), (5, .int (nI ro)), (6, .int co_)]) hx hb dX12_tries_76 hl (by decide) rfl (fun ls hl => ?_)
    have hPl := hP.sub (ws' := [(h0, .inr (12, mG q i_taped i_size i_sort i_what i_at i_end i_worth i_faultKind i_faultPlace i_got i_worked (nI dl) i_isPlanned i_bestDone i_bestCost)), (q 51, .inl (E.2.1 0, 512, .inl f_6)), (q 52, .inl (E.2.1 0, 512, .inl f_7)), (q 49, .inl (E.2.1 0, 100, .inl a_flights)), (q 42, .inl (E.2.1 0, 7, .inl a_dFrom)), (q 43, .inl (E.2.1 0, 7, .inl a_dTo)), (q 44, .inl (E.2.1 0, 7, .inl a_dDays)), (q 45, .inl (E.2.1 0, 7, .inl a_dFirst)), (q 46, .inl (E.2.1 0, 7, .inl a_dLast))]) [0, 1, 2, 3, 4, 5, 6, 7, 8] rfl
    have hDl := hD.sub (ws' := [(h0, .inr (12, mG q i_taped i_size i_sort i_what i_at i_end i_worth i_faultKind i_faultPlace i_got i_worked (nI dl) i_isPlanned i_bestDone i_bestCost)), (q 51, .inl (E.2.1 0, 512, .inl f_6)), (q 52, .inl (E.2.1 0, 512, .inl f_7)), (q 49, .inl (E.2.1 0, 100, .inl a_flights)), (q 42, .inl (E.2.1 0, 7, .inl a_dFrom)), (q 43, .inl (E.2.1 0, 7, .inl a_dTo)), (q 44, .inl (E.2.1 0, 7, .inl a_dDays)), (q 45, .inl (E.2.1 0, 7, .inl a_dFirst)), (q 46, .inl (E.2.1 0, 7, .inl a_dLast))]) [0, 1, 2, 3, 4, 5, 6, 7, 8] (by decide) rfl
    refine lm_tries5 E h0 q i_taped i_size i_sort i_what i_at i_end i_worth i_faultKind i_faultPlace i_got i_worked i_isPlanned i_bestDone i_bestCost dl cr po se_ ro da co_ a_flights a_dFrom a_dTo a_dDays a_dFirst a_dLast hx hb hml hown hts hkn hst hA (by omega) (by omega) (by omega) (by omega) hbc hro hI_dFrom hI_dTo (fun n_9 n_10 H locs ls hI_order hP hD hS hl => ?_) 9 0 f_6 f_7 _ _ _ (by omega) (by omega) hI_8 hPl hDl hS (lv_sub hl [2, 3, 4, 5, 6, 7, 8, 0] rfl)
    have hP : va_P E.1 vwCl [(h0, .inr (12, mG q i_taped i_size i_sort i_what i_at i_end i_worth i_faultKind i_faultPlace i_got i_worked (nI dl) i_isPlanned i_bestDone i_bestCost)), (q 51, .inl (E.2.1 0, 512, .inl n_9)), (q 52, .inl (E.2.1 0, 512, .inl n_10)), (q 49, .inl (E.2.1 0, 100, .inl a_flights)), (q 42, .inl (E.2.1 0, 7, .inl a_dFrom)), (q 43, .inl (E.2.1 0, 7, .inl a_dTo)), (q 44, .inl (E.2.1 0, 7, .inl a_dDays)), (q 45, .inl (E.2.1 0, 7, .inl a_dFirst)), (q 46, .inl (E.2.1 0, 7, .inl a_dLast))] H := hP
    have hD : va_D A [(h0, .inr (12, mG q i_taped i_size i_sort i_what i_at i_end i_worth i_faultKind i_faultPlace i_got i_worked (nI dl) i_isPlanned i_bestDone i_bestCost)), (q 51, .inl (E.2.1 0, 512, .inl n_9)), (q 52, .inl (E.2.1 0, 512, .inl n_10)), (q 49, .inl (E.2.1 0, 100, .inl a_flights)), (q 42, .inl (E.2.1 0, 7, .inl a_dFrom)), (q 43, .inl (E.2.1 0, 7, .inl a_dTo)), (q 44, .inl (E.2.1 0, 7, .inl a_dDays)), (q 45, .inl (E.2.1 0, 7, .inl a_dFirst)), (q 46, .inl (E.2.1 0, 7, .inl a_dLast))] := hD
    have hP9 := hP.sub (ws' := [(h0, .inr (12, mG q i_taped i_size i_sort i_what i_at i_end i_worth i_faultKind i_faultPlace i_got i_worked (nI dl) i_isPlanned i_bestDone i_bestCost)), (q 51, .inl (E.2.1 0, 512, .inl n_9)), (q 52, .inl (E.2.1 0, 512, .inl n_10)), (q 49, .inl (E.2.1 0, 100, .inl a_flights)), (q 42, .inl (E.2.1 0, 7, .inl a_dFrom)), (q 43, .inl (E.2.1 0, 7, .inl a_dTo)), (q 44, .inl (E.2.1 0, 7, .inl a_dDays)), (q 45, .inl (E.2.1 0, 7, .inl a_dFirst)), (q 46, .inl (E.2.1 0, 7, .inl a_dLast))]) [0, 1, 2, 3, 4, 5, 6, 7, 8] rfl
    have hD9 := hD.sub (ws' := [(h0, .inr (12, mG q i_taped i_size i_sort i_what i_at i_end i_worth i_faultKind i_faultPlace i_got i_worked (nI dl) i_isPlanned i_bestDone i_bestCost)), (q 51, .inl (E.2.1 0, 512, .inl n_9)), (q 52, .inl (E.2.1 0, 512, .inl n_10)), (q 49, .inl (E.2.1 0, 100, .inl a_flights)), (q 42, .inl (E.2.1 0, 7, .inl a_dFrom)), (q 43, .inl (E.2.1 0, 7, .inl a_dTo)), (q 44, .inl (E.2.1 0, 7, .inl a_dDays)), (q 45, .inl (E.2.1 0, 7, .inl a_dFirst)), (q 46, .inl (E.2.1 0, 7, .inl a_dLast))]) [0, 1, 2, 3, 4, 5, 6, 7, 8] (by decide) rfl
    exact W.vret hx hb hr (fun t ht hW => ⟨⟨(n_9, n_10), rfl, trivial, hI_order, by rw [ht]; exact hP9, hD9⟩, hS.F ht⟩) hS.2.2 dX12_tries_246
  · refine lv_iload hx hb dX12_tries_21 (lv_at hl 7 rfl) ?_
    refine lv_aload_n hx hb dX12_tries_23 rfl (lv_at hl 1 rfl) ?_
    refine va_get (D := E.1) (ci := 12) (v := .ref (q 51)) (C := RX12) (T := TX12) (N := 59) hx hb hts inX12 hown hK hP 0 rfl rfl 51 (by decide) fl130 (fun _ h9 => h9) rfl dX12_tries_24 ?_
    refine lv_iload hx hb dX12_tries_27 (lv_at hl 0 rfl) ?_
    refine va_iald hx hb hK hP 1 0 rfl rfl hi_3 dX12_tries_29 ?_
    refine lv_topi (fun x_11 ex_11 => ?_)
    refine lv_icmp_lt (tgt := 57) hx hb dX12_tries_30 (by decide) (fun c_12 => ?_) (fun c_12 => ?_)
    · refine lv_aload_n hx hb dX12_tries_57 rfl (lv_at hl 1 rfl) ?_
      refine va_get (D := E.1) (ci := 12) (v := .ref (q 51)) (C := RX12) (T := TX12) (N := 59) hx hb hts inX12 hown hK hP 0 rfl rfl 51 (by decide) fl130 (fun _ h9 => h9) rfl dX12_tries_58 ?_
      refine lv_iload hx hb dX12_tries_61 (lv_at hl 0 rfl) ?_
      refine lv_iload hx hb dX12_tries_63 (lv_at hl 7 rfl) ?_
      refine va_iast hx hb hK hP hD hS 1 0 rfl rfl hi_3 dX12_tries_65 (fun H locs hP hD hS => ?_)
      have hP : va_P E.1 vwCl [(h0, .inr (12, mG q i_taped i_size i_sort i_what i_at i_end i_worth i_faultKind i_faultPlace i_got i_worked (nI dl) i_isPlanned i_bestDone i_bestCost)), (q 51, .inl (E.2.1 0, 512, .inl (upd a_least (nI ((128 * cr) + se_)).toNatClampNeg co_))), (q 52, .inl (E.2.1 0, 512, .inl a_order)), (q 49, .inl (E.2.1 0, 100, .inl a_flights)), (q 42, .inl (E.2.1 0, 7, .inl a_dFrom)), (q 43, .inl (E.2.1 0, 7, .inl a_dTo)), (q 44, .inl (E.2.1 0, 7, .inl a_dDays)), (q 45, .inl (E.2.1 0, 7, .inl a_dFirst)), (q 46, .inl (E.2.1 0, 7, .inl a_dLast))] H := hP
      have hD : va_D A [(h0, .inr (12, mG q i_taped i_size i_sort i_what i_at i_end i_worth i_faultKind i_faultPlace i_got i_worked (nI dl) i_isPlanned i_bestDone i_bestCost)), (q 51, .inl (E.2.1 0, 512, .inl (upd a_least (nI ((128 * cr) + se_)).toNatClampNeg co_))), (q 52, .inl (E.2.1 0, 512, .inl a_order)), (q 49, .inl (E.2.1 0, 100, .inl a_flights)), (q 42, .inl (E.2.1 0, 7, .inl a_dFrom)), (q 43, .inl (E.2.1 0, 7, .inl a_dTo)), (q 44, .inl (E.2.1 0, 7, .inl a_dDays)), (q 45, .inl (E.2.1 0, 7, .inl a_dFirst)), (q 46, .inl (E.2.1 0, 7, .inl a_dLast))] := hD
      obtain ⟨f_13, ef_13⟩ : ∃ g : Nat → Int32, g = upd a_least (nI ((128 * cr) + se_)).toNatClampNeg co_ := ⟨_, rfl⟩
      rw [← ef_13] at hP hD
      refine lv_aload_n hx hb dX12_tries_66 rfl (lv_at hl 1 rfl) ?_
      refine va_get (D := E.1) (ci := 12) (v := .ref (q 52)) (C := RX12) (T := TX12) (N := 59) hx hb hts inX12 hown hK hP 0 rfl rfl 52 (by decide) fl133 (fun _ h9 => h9) rfl dX12_tries_67 ?_
      refine lv_iload hx hb dX12_tries_70 (lv_at hl 0 rfl) ?_
      refine lv_iload hx hb dX12_tries_72 (lv_at hl 6 rfl) ?_
      refine va_iast hx hb hK hP hD hS 2 0 rfl rfl hi_3 dX12_tries_74 (fun H locs hP hD hS => ?_)
      have hP : va_P E.1 vwCl [(h0, .inr (12, mG q i_taped i_size i_sort i_what i_at i_end i_worth i_faultKind i_faultPlace i_got i_worked (nI dl) i_isPlanned i_bestDone i_bestCost)), (q 51, .inl (E.2.1 0, 512, .inl f_13)), (q 52, .inl (E.2.1 0, 512, .inl (upd a_order (nI ((128 * cr) + se_)).toNatClampNeg (nI ro)))), (q 49, .inl (E.2.1 0, 100, .inl a_flights)), (q 42, .inl (E.2.1 0, 7, .inl a_dFrom)), (q 43, .inl (E.2.1 0, 7, .inl a_dTo)), (q 44, .inl (E.2.1 0, 7, .inl a_dDays)), (q 45, .inl (E.2.1 0, 7, .inl a_dFirst)), (q 46, .inl (E.2.1 0, 7, .inl a_dLast))] H := hP
      have hD : va_D A [(h0, .inr (12, mG q i_taped i_size i_sort i_what i_at i_end i_worth i_faultKind i_faultPlace i_got i_worked (nI dl) i_isPlanned i_bestDone i_bestCost)), (q 51, .inl (E.2.1 0, 512, .inl f_13)), (q 52, .inl (E.2.1 0, 512, .inl (upd a_order (nI ((128 * cr) + se_)).toNatClampNeg (nI ro)))), (q 49, .inl (E.2.1 0, 100, .inl a_flights)), (q 42, .inl (E.2.1 0, 7, .inl a_dFrom)), (q 43, .inl (E.2.1 0, 7, .inl a_dTo)), (q 44, .inl (E.2.1 0, 7, .inl a_dDays)), (q 45, .inl (E.2.1 0, 7, .inl a_dFirst)), (q 46, .inl (E.2.1 0, 7, .inl a_dLast))] := hD
      obtain ⟨f_14, ef_14⟩ : ∃ g : Nat → Int32, g = upd a_order (nI ((128 * cr) + se_)).toNatClampNeg (nI ro) := ⟨_, rfl⟩
      rw [← ef_14] at hP hD
      have hI_15 : ∀ k : Nat, k < 512 → digOK (f_14 k) := by rw [ef_14]; exact all_upd (P := fun z => digOK z) hI_order (dg_OK hro (by decide))
      refine lv_iconst (v := 0) hx hb dX12_tries_75 (by decide) ?_
      refine lv_istore (lv' := [(8, .int 0), (7, .int (nI ((128 * cr) + se_))), (0, .ref h0), (1, .int (nI cr)), (2, .int (nI po)), (3, .int da), (4, .int (nI se_)), (5, .int (nI ro)), (6, .int co_)]) hx hb dX12_tries_76 hl (by decide) rfl (fun ls hl => ?_)
      have hPl := hP.sub (ws' := [(h0, .inr (12, mG q i_taped i_size i_sort i_what i_at i_end i_worth i_faultKind i_faultPlace i_got i_worked (nI dl) i_isPlanned i_bestDone i_bestCost)), (q 51, .inl (E.2.1 0, 512, .inl f_13)), (q 52, .inl (E.2.1 0, 512, .inl f_14)), (q 49, .inl (E.2.1 0, 100, .inl a_flights)), (q 42, .inl (E.2.1 0, 7, .inl a_dFrom)), (q 43, .inl (E.2.1 0, 7, .inl a_dTo)), (q 44, .inl (E.2.1 0, 7, .inl a_dDays)), (q 45, .inl (E.2.1 0, 7, .inl a_dFirst)), (q 46, .inl (E.2.1 0, 7, .inl a_dLast))]) [0, 1, 2, 3, 4, 5, 6, 7, 8] rfl
      have hDl := hD.sub (ws' := [(h0, .inr (12, mG q i_taped i_size i_sort i_what i_at i_end i_worth i_faultKind i_faultPlace i_got i_worked (nI dl) i_isPlanned i_bestDone i_bestCost)), (q 51, .inl (E.2.1 0, 512, .inl f_13)), (q 52, .inl (E.2.1 0, 512, .inl f_14)), (q 49, .inl (E.2.1 0, 100, .inl a_flights)), (q 42, .inl (E.2.1 0, 7, .inl a_dFrom)), (q 43, .inl (E.2.1 0, 7, .inl a_dTo)), (q 44, .inl (E.2.1 0, 7, .inl a_dDays)), (q 45, .inl (E.2.1 0, 7, .inl a_dFirst)), (q 46, .inl (E.2.1 0, 7, .inl a_dLast))]) [0, 1, 2, 3, 4, 5, 6, 7, 8] (by decide) rfl
      refine lm_tries5 E h0 q i_taped i_size i_sort i_what i_at i_end i_worth i_faultKind i_faultPlace i_got i_worked i_isPlanned i_bestDone i_bestCost dl cr po se_ ro da co_ a_flights a_dFrom a_dTo a_dDays a_dFirst a_dLast hx hb hml hown hts hkn hst hA (by omega) (by omega) (by omega) (by omega) hbc hro hI_dFrom hI_dTo (fun n_16 n_17 H locs ls hI_order hP hD hS hl => ?_) 9 0 f_13 f_14 _ _ _ (by omega) (by omega) hI_15 hPl hDl hS (lv_sub hl [2, 3, 4, 5, 6, 7, 8, 0] rfl)
      have hP : va_P E.1 vwCl [(h0, .inr (12, mG q i_taped i_size i_sort i_what i_at i_end i_worth i_faultKind i_faultPlace i_got i_worked (nI dl) i_isPlanned i_bestDone i_bestCost)), (q 51, .inl (E.2.1 0, 512, .inl n_16)), (q 52, .inl (E.2.1 0, 512, .inl n_17)), (q 49, .inl (E.2.1 0, 100, .inl a_flights)), (q 42, .inl (E.2.1 0, 7, .inl a_dFrom)), (q 43, .inl (E.2.1 0, 7, .inl a_dTo)), (q 44, .inl (E.2.1 0, 7, .inl a_dDays)), (q 45, .inl (E.2.1 0, 7, .inl a_dFirst)), (q 46, .inl (E.2.1 0, 7, .inl a_dLast))] H := hP
      have hD : va_D A [(h0, .inr (12, mG q i_taped i_size i_sort i_what i_at i_end i_worth i_faultKind i_faultPlace i_got i_worked (nI dl) i_isPlanned i_bestDone i_bestCost)), (q 51, .inl (E.2.1 0, 512, .inl n_16)), (q 52, .inl (E.2.1 0, 512, .inl n_17)), (q 49, .inl (E.2.1 0, 100, .inl a_flights)), (q 42, .inl (E.2.1 0, 7, .inl a_dFrom)), (q 43, .inl (E.2.1 0, 7, .inl a_dTo)), (q 44, .inl (E.2.1 0, 7, .inl a_dDays)), (q 45, .inl (E.2.1 0, 7, .inl a_dFirst)), (q 46, .inl (E.2.1 0, 7, .inl a_dLast))] := hD
      have hP9 := hP.sub (ws' := [(h0, .inr (12, mG q i_taped i_size i_sort i_what i_at i_end i_worth i_faultKind i_faultPlace i_got i_worked (nI dl) i_isPlanned i_bestDone i_bestCost)), (q 51, .inl (E.2.1 0, 512, .inl n_16)), (q 52, .inl (E.2.1 0, 512, .inl n_17)), (q 49, .inl (E.2.1 0, 100, .inl a_flights)), (q 42, .inl (E.2.1 0, 7, .inl a_dFrom)), (q 43, .inl (E.2.1 0, 7, .inl a_dTo)), (q 44, .inl (E.2.1 0, 7, .inl a_dDays)), (q 45, .inl (E.2.1 0, 7, .inl a_dFirst)), (q 46, .inl (E.2.1 0, 7, .inl a_dLast))]) [0, 1, 2, 3, 4, 5, 6, 7, 8] rfl
      have hD9 := hD.sub (ws' := [(h0, .inr (12, mG q i_taped i_size i_sort i_what i_at i_end i_worth i_faultKind i_faultPlace i_got i_worked (nI dl) i_isPlanned i_bestDone i_bestCost)), (q 51, .inl (E.2.1 0, 512, .inl n_16)), (q 52, .inl (E.2.1 0, 512, .inl n_17)), (q 49, .inl (E.2.1 0, 100, .inl a_flights)), (q 42, .inl (E.2.1 0, 7, .inl a_dFrom)), (q 43, .inl (E.2.1 0, 7, .inl a_dTo)), (q 44, .inl (E.2.1 0, 7, .inl a_dDays)), (q 45, .inl (E.2.1 0, 7, .inl a_dFirst)), (q 46, .inl (E.2.1 0, 7, .inl a_dLast))]) [0, 1, 2, 3, 4, 5, 6, 7, 8] (by decide) rfl
      exact W.vret hx hb hr (fun t ht hW => ⟨⟨(n_16, n_17), rfl, trivial, hI_order, by rw [ht]; exact hP9, hD9⟩, hS.F ht⟩) hS.2.2 dX12_tries_246
    · refine lv_iload hx hb dX12_tries_33 (lv_at hl 7 rfl) ?_
      refine lv_aload_n hx hb dX12_tries_35 rfl (lv_at hl 1 rfl) ?_
      refine va_get (D := E.1) (ci := 12) (v := .ref (q 51)) (C := RX12) (T := TX12) (N := 59) hx hb hts inX12 hown hK hP 0 rfl rfl 51 (by decide) fl130 (fun _ h9 => h9) rfl dX12_tries_36 ?_
      refine lv_iload hx hb dX12_tries_39 (lv_at hl 0 rfl) ?_
      refine va_iald hx hb hK hP 1 0 rfl rfl hi_3 dX12_tries_41 ?_
      refine lv_topi (fun x_18 ex_18 => ?_)
      refine lv_icmp_ne (tgt := 75) hx hb dX12_tries_42 (by decide) (fun c_19 => ?_) (fun c_19 => ?_)
      · refine lv_iconst (v := 0) hx hb dX12_tries_75 (by decide) ?_
        refine lv_istore (lv' := [(8, .int 0), (7, .int (nI ((128 * cr) + se_))), (0, .ref h0), (1, .int (nI cr)), (2, .int (nI po)), (3, .int da), (4, .int (nI se_)), (5, .int (nI ro)), (6, .int co_)]) hx hb dX12_tries_76 hl (by decide) rfl (fun ls hl => ?_)
        have hPl := hP.sub (ws' := [(h0, .inr (12, mG q i_taped i_size i_sort i_what i_at i_end i_worth i_faultKind i_faultPlace i_got i_worked (nI dl) i_isPlanned i_bestDone i_bestCost)), (q 51, .inl (E.2.1 0, 512, .inl a_least)), (q 52, .inl (E.2.1 0, 512, .inl a_order)), (q 49, .inl (E.2.1 0, 100, .inl a_flights)), (q 42, .inl (E.2.1 0, 7, .inl a_dFrom)), (q 43, .inl (E.2.1 0, 7, .inl a_dTo)), (q 44, .inl (E.2.1 0, 7, .inl a_dDays)), (q 45, .inl (E.2.1 0, 7, .inl a_dFirst)), (q 46, .inl (E.2.1 0, 7, .inl a_dLast))]) [0, 1, 2, 3, 4, 5, 6, 7, 8] rfl
        have hDl := hD.sub (ws' := [(h0, .inr (12, mG q i_taped i_size i_sort i_what i_at i_end i_worth i_faultKind i_faultPlace i_got i_worked (nI dl) i_isPlanned i_bestDone i_bestCost)), (q 51, .inl (E.2.1 0, 512, .inl a_least)), (q 52, .inl (E.2.1 0, 512, .inl a_order)), (q 49, .inl (E.2.1 0, 100, .inl a_flights)), (q 42, .inl (E.2.1 0, 7, .inl a_dFrom)), (q 43, .inl (E.2.1 0, 7, .inl a_dTo)), (q 44, .inl (E.2.1 0, 7, .inl a_dDays)), (q 45, .inl (E.2.1 0, 7, .inl a_dFirst)), (q 46, .inl (E.2.1 0, 7, .inl a_dLast))]) [0, 1, 2, 3, 4, 5, 6, 7, 8] (by decide) rfl
        refine lm_tries5 E h0 q i_taped i_size i_sort i_what i_at i_end i_worth i_faultKind i_faultPlace i_got i_worked i_isPlanned i_bestDone i_bestCost dl cr po se_ ro da co_ a_flights a_dFrom a_dTo a_dDays a_dFirst a_dLast hx hb hml hown hts hkn hst hA (by omega) (by omega) (by omega) (by omega) hbc hro hI_dFrom hI_dTo (fun n_20 n_21 H locs ls hI_order hP hD hS hl => ?_) 9 0 a_least a_order _ _ _ (by omega) (by omega) hI_order hPl hDl hS (lv_sub hl [2, 3, 4, 5, 6, 7, 8, 0] rfl)
        have hP : va_P E.1 vwCl [(h0, .inr (12, mG q i_taped i_size i_sort i_what i_at i_end i_worth i_faultKind i_faultPlace i_got i_worked (nI dl) i_isPlanned i_bestDone i_bestCost)), (q 51, .inl (E.2.1 0, 512, .inl n_20)), (q 52, .inl (E.2.1 0, 512, .inl n_21)), (q 49, .inl (E.2.1 0, 100, .inl a_flights)), (q 42, .inl (E.2.1 0, 7, .inl a_dFrom)), (q 43, .inl (E.2.1 0, 7, .inl a_dTo)), (q 44, .inl (E.2.1 0, 7, .inl a_dDays)), (q 45, .inl (E.2.1 0, 7, .inl a_dFirst)), (q 46, .inl (E.2.1 0, 7, .inl a_dLast))] H := hP
        have hD : va_D A [(h0, .inr (12, mG q i_taped i_size i_sort i_what i_at i_end i_worth i_faultKind i_faultPlace i_got i_worked (nI dl) i_isPlanned i_bestDone i_bestCost)), (q 51, .inl (E.2.1 0, 512, .inl n_20)), (q 52, .inl (E.2.1 0, 512, .inl n_21)), (q 49, .inl (E.2.1 0, 100, .inl a_flights)), (q 42, .inl (E.2.1 0, 7, .inl a_dFrom)), (q 43, .inl (E.2.1 0, 7, .inl a_dTo)), (q 44, .inl (E.2.1 0, 7, .inl a_dDays)), (q 45, .inl (E.2.1 0, 7, .inl a_dFirst)), (q 46, .inl (E.2.1 0, 7, .inl a_dLast))] := hD
        have hP9 := hP.sub (ws' := [(h0, .inr (12, mG q i_taped i_size i_sort i_what i_at i_end i_worth i_faultKind i_faultPlace i_got i_worked (nI dl) i_isPlanned i_bestDone i_bestCost)), (q 51, .inl (E.2.1 0, 512, .inl n_20)), (q 52, .inl (E.2.1 0, 512, .inl n_21)), (q 49, .inl (E.2.1 0, 100, .inl a_flights)), (q 42, .inl (E.2.1 0, 7, .inl a_dFrom)), (q 43, .inl (E.2.1 0, 7, .inl a_dTo)), (q 44, .inl (E.2.1 0, 7, .inl a_dDays)), (q 45, .inl (E.2.1 0, 7, .inl a_dFirst)), (q 46, .inl (E.2.1 0, 7, .inl a_dLast))]) [0, 1, 2, 3, 4, 5, 6, 7, 8] rfl
        have hD9 := hD.sub (ws' := [(h0, .inr (12, mG q i_taped i_size i_sort i_what i_at i_end i_worth i_faultKind i_faultPlace i_got i_worked (nI dl) i_isPlanned i_bestDone i_bestCost)), (q 51, .inl (E.2.1 0, 512, .inl n_20)), (q 52, .inl (E.2.1 0, 512, .inl n_21)), (q 49, .inl (E.2.1 0, 100, .inl a_flights)), (q 42, .inl (E.2.1 0, 7, .inl a_dFrom)), (q 43, .inl (E.2.1 0, 7, .inl a_dTo)), (q 44, .inl (E.2.1 0, 7, .inl a_dDays)), (q 45, .inl (E.2.1 0, 7, .inl a_dFirst)), (q 46, .inl (E.2.1 0, 7, .inl a_dLast))]) [0, 1, 2, 3, 4, 5, 6, 7, 8] (by decide) rfl
        exact W.vret hx hb hr (fun t ht hW => ⟨⟨(n_20, n_21), rfl, trivial, hI_order, by rw [ht]; exact hP9, hD9⟩, hS.F ht⟩) hS.2.2 dX12_tries_246
      · refine lv_iload hx hb dX12_tries_45 (lv_at hl 6 rfl) ?_
        refine lv_aload_n hx hb dX12_tries_47 rfl (lv_at hl 1 rfl) ?_
        refine va_get (D := E.1) (ci := 12) (v := .ref (q 52)) (C := RX12) (T := TX12) (N := 59) hx hb hts inX12 hown hK hP 0 rfl rfl 52 (by decide) fl133 (fun _ h9 => h9) rfl dX12_tries_48 ?_
        refine lv_iload hx hb dX12_tries_51 (lv_at hl 0 rfl) ?_
        refine va_iald hx hb hK hP 2 0 rfl rfl hi_3 dX12_tries_53 ?_
        refine lv_topi (fun x_22 ex_22 => ?_)
        have hv_23 : digOK x_22 := by rw [ex_22]; exact hI_order _ (vin_cl hi_3)
        refine lv_icmp_ge (tgt := 75) hx hb dX12_tries_54 (by decide) (fun c_24 => ?_) (fun c_24 => ?_)
        · refine lv_iconst (v := 0) hx hb dX12_tries_75 (by decide) ?_
          refine lv_istore (lv' := [(8, .int 0), (7, .int (nI ((128 * cr) + se_))), (0, .ref h0), (1, .int (nI cr)), (2, .int (nI po)), (3, .int da), (4, .int (nI se_)), (5, .int (nI ro)), (6, .int co_)]) hx hb dX12_tries_76 hl (by decide) rfl (fun ls hl => ?_)
          have hPl := hP.sub (ws' := [(h0, .inr (12, mG q i_taped i_size i_sort i_what i_at i_end i_worth i_faultKind i_faultPlace i_got i_worked (nI dl) i_isPlanned i_bestDone i_bestCost)), (q 51, .inl (E.2.1 0, 512, .inl a_least)), (q 52, .inl (E.2.1 0, 512, .inl a_order)), (q 49, .inl (E.2.1 0, 100, .inl a_flights)), (q 42, .inl (E.2.1 0, 7, .inl a_dFrom)), (q 43, .inl (E.2.1 0, 7, .inl a_dTo)), (q 44, .inl (E.2.1 0, 7, .inl a_dDays)), (q 45, .inl (E.2.1 0, 7, .inl a_dFirst)), (q 46, .inl (E.2.1 0, 7, .inl a_dLast))]) [0, 1, 2, 3, 4, 5, 6, 7, 8] rfl
          have hDl := hD.sub (ws' := [(h0, .inr (12, mG q i_taped i_size i_sort i_what i_at i_end i_worth i_faultKind i_faultPlace i_got i_worked (nI dl) i_isPlanned i_bestDone i_bestCost)), (q 51, .inl (E.2.1 0, 512, .inl a_least)), (q 52, .inl (E.2.1 0, 512, .inl a_order)), (q 49, .inl (E.2.1 0, 100, .inl a_flights)), (q 42, .inl (E.2.1 0, 7, .inl a_dFrom)), (q 43, .inl (E.2.1 0, 7, .inl a_dTo)), (q 44, .inl (E.2.1 0, 7, .inl a_dDays)), (q 45, .inl (E.2.1 0, 7, .inl a_dFirst)), (q 46, .inl (E.2.1 0, 7, .inl a_dLast))]) [0, 1, 2, 3, 4, 5, 6, 7, 8] (by decide) rfl
          refine lm_tries5 E h0 q i_taped i_size i_sort i_what i_at i_end i_worth i_faultKind i_faultPlace i_got i_worked i_isPlanned i_bestDone i_bestCost dl cr po se_ ro da co_ a_flights a_dFrom a_dTo a_dDays a_dFirst a_dLast hx hb hml hown hts hkn hst hA (by omega) (by omega) (by omega) (by omega) hbc hro hI_dFrom hI_dTo (fun n_25 n_26 H locs ls hI_order hP hD hS hl => ?_) 9 0 a_least a_order _ _ _ (by omega) (by omega) hI_order hPl hDl hS (lv_sub hl [2, 3, 4, 5, 6, 7, 8, 0] rfl)
          have hP : va_P E.1 vwCl [(h0, .inr (12, mG q i_taped i_size i_sort i_what i_at i_end i_worth i_faultKind i_faultPlace i_got i_worked (nI dl) i_isPlanned i_bestDone i_bestCost)), (q 51, .inl (E.2.1 0, 512, .inl n_25)), (q 52, .inl (E.2.1 0, 512, .inl n_26)), (q 49, .inl (E.2.1 0, 100, .inl a_flights)), (q 42, .inl (E.2.1 0, 7, .inl a_dFrom)), (q 43, .inl (E.2.1 0, 7, .inl a_dTo)), (q 44, .inl (E.2.1 0, 7, .inl a_dDays)), (q 45, .inl (E.2.1 0, 7, .inl a_dFirst)), (q 46, .inl (E.2.1 0, 7, .inl a_dLast))] H := hP
          have hD : va_D A [(h0, .inr (12, mG q i_taped i_size i_sort i_what i_at i_end i_worth i_faultKind i_faultPlace i_got i_worked (nI dl) i_isPlanned i_bestDone i_bestCost)), (q 51, .inl (E.2.1 0, 512, .inl n_25)), (q 52, .inl (E.2.1 0, 512, .inl n_26)), (q 49, .inl (E.2.1 0, 100, .inl a_flights)), (q 42, .inl (E.2.1 0, 7, .inl a_dFrom)), (q 43, .inl (E.2.1 0, 7, .inl a_dTo)), (q 44, .inl (E.2.1 0, 7, .inl a_dDays)), (q 45, .inl (E.2.1 0, 7, .inl a_dFirst)), (q 46, .inl (E.2.1 0, 7, .inl a_dLast))] := hD
          have hP9 := hP.sub (ws' := [(h0, .inr (12, mG q i_taped i_size i_sort i_what i_at i_end i_worth i_faultKind i_faultPlace i_got i_worked (nI dl) i_isPlanned i_bestDone i_bestCost)), (q 51, .inl (E.2.1 0, 512, .inl n_25)), (q 52, .inl (E.2.1 0, 512, .inl n_26)), (q 49, .inl (E.2.1 0, 100, .inl a_flights)), (q 42, .inl (E.2.1 0, 7, .inl a_dFrom)), (q 43, .inl (E.2.1 0, 7, .inl a_dTo)), (q 44, .inl (E.2.1 0, 7, .inl a_dDays)), (q 45, .inl (E.2.1 0, 7, .inl a_dFirst)), (q 46, .inl (E.2.1 0, 7, .inl a_dLast))]) [0, 1, 2, 3, 4, 5, 6, 7, 8] rfl
          have hD9 := hD.sub (ws' := [(h0, .inr (12, mG q i_taped i_size i_sort i_what i_at i_end i_worth i_faultKind i_faultPlace i_got i_worked (nI dl) i_isPlanned i_bestDone i_bestCost)), (q 51, .inl (E.2.1 0, 512, .inl n_25)), (q 52, .inl (E.2.1 0, 512, .inl n_26)), (q 49, .inl (E.2.1 0, 100, .inl a_flights)), (q 42, .inl (E.2.1 0, 7, .inl a_dFrom)), (q 43, .inl (E.2.1 0, 7, .inl a_dTo)), (q 44, .inl (E.2.1 0, 7, .inl a_dDays)), (q 45, .inl (E.2.1 0, 7, .inl a_dFirst)), (q 46, .inl (E.2.1 0, 7, .inl a_dLast))]) [0, 1, 2, 3, 4, 5, 6, 7, 8] (by decide) rfl
          exact W.vret hx hb hr (fun t ht hW => ⟨⟨(n_25, n_26), rfl, trivial, hI_order, by rw [ht]; exact hP9, hD9⟩, hS.F ht⟩) hS.2.2 dX12_tries_246
        · refine lv_aload_n hx hb dX12_tries_57 rfl (lv_at hl 1 rfl) ?_
          refine va_get (D := E.1) (ci := 12) (v := .ref (q 51)) (C := RX12) (T := TX12) (N := 59) hx hb hts inX12 hown hK hP 0 rfl rfl 51 (by decide) fl130 (fun _ h9 => h9) rfl dX12_tries_58 ?_
          refine lv_iload hx hb dX12_tries_61 (lv_at hl 0 rfl) ?_
          refine lv_iload hx hb dX12_tries_63 (lv_at hl 7 rfl) ?_
          refine va_iast hx hb hK hP hD hS 1 0 rfl rfl hi_3 dX12_tries_65 (fun H locs hP hD hS => ?_)
          have hP : va_P E.1 vwCl [(h0, .inr (12, mG q i_taped i_size i_sort i_what i_at i_end i_worth i_faultKind i_faultPlace i_got i_worked (nI dl) i_isPlanned i_bestDone i_bestCost)), (q 51, .inl (E.2.1 0, 512, .inl (upd a_least (nI ((128 * cr) + se_)).toNatClampNeg co_))), (q 52, .inl (E.2.1 0, 512, .inl a_order)), (q 49, .inl (E.2.1 0, 100, .inl a_flights)), (q 42, .inl (E.2.1 0, 7, .inl a_dFrom)), (q 43, .inl (E.2.1 0, 7, .inl a_dTo)), (q 44, .inl (E.2.1 0, 7, .inl a_dDays)), (q 45, .inl (E.2.1 0, 7, .inl a_dFirst)), (q 46, .inl (E.2.1 0, 7, .inl a_dLast))] H := hP
          have hD : va_D A [(h0, .inr (12, mG q i_taped i_size i_sort i_what i_at i_end i_worth i_faultKind i_faultPlace i_got i_worked (nI dl) i_isPlanned i_bestDone i_bestCost)), (q 51, .inl (E.2.1 0, 512, .inl (upd a_least (nI ((128 * cr) + se_)).toNatClampNeg co_))), (q 52, .inl (E.2.1 0, 512, .inl a_order)), (q 49, .inl (E.2.1 0, 100, .inl a_flights)), (q 42, .inl (E.2.1 0, 7, .inl a_dFrom)), (q 43, .inl (E.2.1 0, 7, .inl a_dTo)), (q 44, .inl (E.2.1 0, 7, .inl a_dDays)), (q 45, .inl (E.2.1 0, 7, .inl a_dFirst)), (q 46, .inl (E.2.1 0, 7, .inl a_dLast))] := hD
          obtain ⟨f_27, ef_27⟩ : ∃ g : Nat → Int32, g = upd a_least (nI ((128 * cr) + se_)).toNatClampNeg co_ := ⟨_, rfl⟩
          rw [← ef_27] at hP hD
          refine lv_aload_n hx hb dX12_tries_66 rfl (lv_at hl 1 rfl) ?_
          refine va_get (D := E.1) (ci := 12) (v := .ref (q 52)) (C := RX12) (T := TX12) (N := 59) hx hb hts inX12 hown hK hP 0 rfl rfl 52 (by decide) fl133 (fun _ h9 => h9) rfl dX12_tries_67 ?_
          refine lv_iload hx hb dX12_tries_70 (lv_at hl 0 rfl) ?_
          refine lv_iload hx hb dX12_tries_72 (lv_at hl 6 rfl) ?_
          refine va_iast hx hb hK hP hD hS 2 0 rfl rfl hi_3 dX12_tries_74 (fun H locs hP hD hS => ?_)
          have hP : va_P E.1 vwCl [(h0, .inr (12, mG q i_taped i_size i_sort i_what i_at i_end i_worth i_faultKind i_faultPlace i_got i_worked (nI dl) i_isPlanned i_bestDone i_bestCost)), (q 51, .inl (E.2.1 0, 512, .inl f_27)), (q 52, .inl (E.2.1 0, 512, .inl (upd a_order (nI ((128 * cr) + se_)).toNatClampNeg (nI ro)))), (q 49, .inl (E.2.1 0, 100, .inl a_flights)), (q 42, .inl (E.2.1 0, 7, .inl a_dFrom)), (q 43, .inl (E.2.1 0, 7, .inl a_dTo)), (q 44, .inl (E.2.1 0, 7, .inl a_dDays)), (q 45, .inl (E.2.1 0, 7, .inl a_dFirst)), (q 46, .inl (E.2.1 0, 7, .inl a_dLast))] H := hP
          have hD : va_D A [(h0, .inr (12, mG q i_taped i_size i_sort i_what i_at i_end i_worth i_faultKind i_faultPlace i_got i_worked (nI dl) i_isPlanned i_bestDone i_bestCost)), (q 51, .inl (E.2.1 0, 512, .inl f_27)), (q 52, .inl (E.2.1 0, 512, .inl (upd a_order (nI ((128 * cr) + se_)).toNatClampNeg (nI ro)))), (q 49, .inl (E.2.1 0, 100, .inl a_flights)), (q 42, .inl (E.2.1 0, 7, .inl a_dFrom)), (q 43, .inl (E.2.1 0, 7, .inl a_dTo)), (q 44, .inl (E.2.1 0, 7, .inl a_dDays)), (q 45, .inl (E.2.1 0, 7, .inl a_dFirst)), (q 46, .inl (E.2.1 0, 7, .inl a_dLast))] := hD
          obtain ⟨f_28, ef_28⟩ : ∃ g : Nat → Int32, g = upd a_order (nI ((128 * cr) + se_)).toNatClampNeg (nI ro) := ⟨_, rfl⟩
          rw [← ef_28] at hP hD
          have hI_29 : ∀ k : Nat, k < 512 → digOK (f_28 k) := by rw [ef_28]; exact all_upd (P := fun z => digOK z) hI_order (dg_OK hro (by decide))
          refine lv_iconst (v := 0) hx hb dX12_tries_75 (by decide) ?_
          refine lv_istore (lv' := [(8, .int 0), (7, .int (nI ((128 * cr) + se_))), (0, .ref h0), (1, .int (nI cr)), (2, .int (nI po)), (3, .int da), (4, .int (nI se_)), (5, .int (nI ro)), (6, .int co_)]) hx hb dX12_tries_76 hl (by decide) rfl (fun ls hl => ?_)
          have hPl := hP.sub (ws' := [(h0, .inr (12, mG q i_taped i_size i_sort i_what i_at i_end i_worth i_faultKind i_faultPlace i_got i_worked (nI dl) i_isPlanned i_bestDone i_bestCost)), (q 51, .inl (E.2.1 0, 512, .inl f_27)), (q 52, .inl (E.2.1 0, 512, .inl f_28)), (q 49, .inl (E.2.1 0, 100, .inl a_flights)), (q 42, .inl (E.2.1 0, 7, .inl a_dFrom)), (q 43, .inl (E.2.1 0, 7, .inl a_dTo)), (q 44, .inl (E.2.1 0, 7, .inl a_dDays)), (q 45, .inl (E.2.1 0, 7, .inl a_dFirst)), (q 46, .inl (E.2.1 0, 7, .inl a_dLast))]) [0, 1, 2, 3, 4, 5, 6, 7, 8] rfl
          have hDl := hD.sub (ws' := [(h0, .inr (12, mG q i_taped i_size i_sort i_what i_at i_end i_worth i_faultKind i_faultPlace i_got i_worked (nI dl) i_isPlanned i_bestDone i_bestCost)), (q 51, .inl (E.2.1 0, 512, .inl f_27)), (q 52, .inl (E.2.1 0, 512, .inl f_28)), (q 49, .inl (E.2.1 0, 100, .inl a_flights)), (q 42, .inl (E.2.1 0, 7, .inl a_dFrom)), (q 43, .inl (E.2.1 0, 7, .inl a_dTo)), (q 44, .inl (E.2.1 0, 7, .inl a_dDays)), (q 45, .inl (E.2.1 0, 7, .inl a_dFirst)), (q 46, .inl (E.2.1 0, 7, .inl a_dLast))]) [0, 1, 2, 3, 4, 5, 6, 7, 8] (by decide) rfl
          refine lm_tries5 E h0 q i_taped i_size i_sort i_what i_at i_end i_worth i_faultKind i_faultPlace i_got i_worked i_isPlanned i_bestDone i_bestCost dl cr po se_ ro da co_ a_flights a_dFrom a_dTo a_dDays a_dFirst a_dLast hx hb hml hown hts hkn hst hA (by omega) (by omega) (by omega) (by omega) hbc hro hI_dFrom hI_dTo (fun n_30 n_31 H locs ls hI_order hP hD hS hl => ?_) 9 0 f_27 f_28 _ _ _ (by omega) (by omega) hI_29 hPl hDl hS (lv_sub hl [2, 3, 4, 5, 6, 7, 8, 0] rfl)
          have hP : va_P E.1 vwCl [(h0, .inr (12, mG q i_taped i_size i_sort i_what i_at i_end i_worth i_faultKind i_faultPlace i_got i_worked (nI dl) i_isPlanned i_bestDone i_bestCost)), (q 51, .inl (E.2.1 0, 512, .inl n_30)), (q 52, .inl (E.2.1 0, 512, .inl n_31)), (q 49, .inl (E.2.1 0, 100, .inl a_flights)), (q 42, .inl (E.2.1 0, 7, .inl a_dFrom)), (q 43, .inl (E.2.1 0, 7, .inl a_dTo)), (q 44, .inl (E.2.1 0, 7, .inl a_dDays)), (q 45, .inl (E.2.1 0, 7, .inl a_dFirst)), (q 46, .inl (E.2.1 0, 7, .inl a_dLast))] H := hP
          have hD : va_D A [(h0, .inr (12, mG q i_taped i_size i_sort i_what i_at i_end i_worth i_faultKind i_faultPlace i_got i_worked (nI dl) i_isPlanned i_bestDone i_bestCost)), (q 51, .inl (E.2.1 0, 512, .inl n_30)), (q 52, .inl (E.2.1 0, 512, .inl n_31)), (q 49, .inl (E.2.1 0, 100, .inl a_flights)), (q 42, .inl (E.2.1 0, 7, .inl a_dFrom)), (q 43, .inl (E.2.1 0, 7, .inl a_dTo)), (q 44, .inl (E.2.1 0, 7, .inl a_dDays)), (q 45, .inl (E.2.1 0, 7, .inl a_dFirst)), (q 46, .inl (E.2.1 0, 7, .inl a_dLast))] := hD
          have hP9 := hP.sub (ws' := [(h0, .inr (12, mG q i_taped i_size i_sort i_what i_at i_end i_worth i_faultKind i_faultPlace i_got i_worked (nI dl) i_isPlanned i_bestDone i_bestCost)), (q 51, .inl (E.2.1 0, 512, .inl n_30)), (q 52, .inl (E.2.1 0, 512, .inl n_31)), (q 49, .inl (E.2.1 0, 100, .inl a_flights)), (q 42, .inl (E.2.1 0, 7, .inl a_dFrom)), (q 43, .inl (E.2.1 0, 7, .inl a_dTo)), (q 44, .inl (E.2.1 0, 7, .inl a_dDays)), (q 45, .inl (E.2.1 0, 7, .inl a_dFirst)), (q 46, .inl (E.2.1 0, 7, .inl a_dLast))]) [0, 1, 2, 3, 4, 5, 6, 7, 8] rfl
          have hD9 := hD.sub (ws' := [(h0, .inr (12, mG q i_taped i_size i_sort i_what i_at i_end i_worth i_faultKind i_faultPlace i_got i_worked (nI dl) i_isPlanned i_bestDone i_bestCost)), (q 51, .inl (E.2.1 0, 512, .inl n_30)), (q 52, .inl (E.2.1 0, 512, .inl n_31)), (q 49, .inl (E.2.1 0, 100, .inl a_flights)), (q 42, .inl (E.2.1 0, 7, .inl a_dFrom)), (q 43, .inl (E.2.1 0, 7, .inl a_dTo)), (q 44, .inl (E.2.1 0, 7, .inl a_dDays)), (q 45, .inl (E.2.1 0, 7, .inl a_dFirst)), (q 46, .inl (E.2.1 0, 7, .inl a_dLast))]) [0, 1, 2, 3, 4, 5, 6, 7, 8] (by decide) rfl
          exact W.vret hx hb hr (fun t ht hW => ⟨⟨(n_30, n_31), rfl, trivial, hI_order, by rw [ht]; exact hP9, hD9⟩, hS.F ht⟩) hS.2.2 dX12_tries_246
set_option maxHeartbeats 4000000 in
set_option maxRecDepth 100000 in
theorem lm_tries4 {p : Program} {l : Launch} {e : Env} {s : State} {m : MethodId} {args : Array Value} {below : List Frame} {meth : Method} {c : Code} {Q : State → Prop} {A : Nat → Prop} (E : vE) (h0 : Nat) (q : Nat → Nat) (i_taped : Int32) (i_size : Int32) (i_sort : Int32) (i_what : Int32) (i_at : Int32) (i_end : Int32) (i_worth : Int32) (i_faultKind : Int32) (i_faultPlace : Int32) (i_got : Int32) (i_worked : Int32) (i_isPlanned : Int32) (i_bestDone : Int32) (i_bestCost : Int32) (dl : Nat) (cr : Nat) (po : Nat) (se_ : Nat) (ro : Nat) (da : Int32) (co_ : Int32) (a_flights : Nat → Int32) (a_dFrom : Nat → Int32) (a_dTo : Nat → Int32) (a_dDays : Nat → Int32) (a_dFirst : Nat → Int32) (a_dLast : Nat → Int32) (hx : p.tables.exec = Jvm.exec) (hb : c.code = cX12_tries) (hml : c.maxLocals = 11) (hown : s.vm.findClass RX12 = some m.cls) (hts : ∀ w ∈ wsX12_tries, w.before args s = true) (hkn : kn E s) (hst : st E A s s.heap) (hA : ∀ q : Nat, s.heap.size ≤ q → A q) (hcr : cr < 4) (hpo : po ≤ 9) (hse : se_ < 128) (hdl : dl ≤ 7) (hbc : bc7 se_ = 4) (hro : dg ro 4) (hI_dFrom : ∀ k : Nat, k < 7 → inR (a_dFrom k) 0 9 = true) (hI_dTo : ∀ k : Nat, k < 7 → inR (a_dTo k) 0 9 = true) (kk : ∀ (a_least : Nat → Int32) (a_order : Nat → Int32) (H : Heap) (locs : List Loc) (ls : Array Slot), (∀ k : Nat, k < 512 → digOK (a_order k)) → va_P E.1 vwCl [(h0, .inr (12, mG q i_taped i_size i_sort i_what i_at i_end i_worth i_faultKind i_faultPlace i_got i_worked (nI dl) i_isPlanned i_bestDone i_bestCost)), (q 51, .inl (E.2.1 0, 512, .inl a_least)), (q 52, .inl (E.2.1 0, 512, .inl a_order)), (q 49, .inl (E.2.1 0, 100, .inl a_flights)), (q 42, .inl (E.2.1 0, 7, .inl a_dFrom)), (q 43, .inl (E.2.1 0, 7, .inl a_dTo)), (q 44, .inl (E.2.1 0, 7, .inl a_dDays)), (q 45, .inl (E.2.1 0, 7, .inl a_dFirst)), (q 46, .inl (E.2.1 0, 7, .inl a_dLast))] H → va_D A [(h0, .inr (12, mG q i_taped i_size i_sort i_what i_at i_end i_worth i_faultKind i_faultPlace i_got i_worked (nI dl) i_isPlanned i_bestDone i_bestCost)), (q 51, .inl (E.2.1 0, 512, .inl a_least)), (q 52, .inl (E.2.1 0, 512, .inl a_order)), (q 49, .inl (E.2.1 0, 100, .inl a_flights)), (q 42, .inl (E.2.1 0, 7, .inl a_dFrom)), (q 43, .inl (E.2.1 0, 7, .inl a_dTo)), (q 44, .inl (E.2.1 0, 7, .inl a_dDays)), (q 45, .inl (E.2.1 0, 7, .inl a_dFirst)), (q 46, .inl (E.2.1 0, 7, .inl a_dLast))] → va_S A s.heap H locs → lv_has ls 11 [(0, .ref h0)] → W p l e ({ frames := 3, cells := 0, slots := 0, locals := 90 }) s m args below meth c H locs 0 0 Q (F0 m 246 ls [])) : ∀ (n0 : Nat) (k : Nat) (a_least : Nat → Int32) (a_order : Nat → Int32) (H : Heap) (locs : List Loc) (ls : Array Slot), 8 - k < n0 → (k ≤ 7) → (∀ k : Nat, k < 512 → digOK (a_order k)) → va_P E.1 vwCl [(h0, .inr (12, mG q i_taped i_size i_sort i_what i_at i_end i_worth i_faultKind i_faultPlace i_got i_worked (nI dl) i_isPlanned i_bestDone i_bestCost)), (q 51, .inl (E.2.1 0, 512, .inl a_least)), (q 52, .inl (E.2.1 0, 512, .inl a_order)), (q 49, .inl (E.2.1 0, 100, .inl a_flights)), (q 42, .inl (E.2.1 0, 7, .inl a_dFrom)), (q 43, .inl (E.2.1 0, 7, .inl a_dTo)), (q 44, .inl (E.2.1 0, 7, .inl a_dDays)), (q 45, .inl (E.2.1 0, 7, .inl a_dFirst)), (q 46, .inl (E.2.1 0, 7, .inl a_dLast))] H → va_D A [(h0, .inr (12, mG q i_taped i_size i_sort i_what i_at i_end i_worth i_faultKind i_faultPlace i_got i_worked (nI dl) i_isPlanned i_bestDone i_bestCost)), (q 51, .inl (E.2.1 0, 512, .inl a_least)), (q 52, .inl (E.2.1 0, 512, .inl a_order)), (q 49, .inl (E.2.1 0, 100, .inl a_flights)), (q 42, .inl (E.2.1 0, 7, .inl a_dFrom)), (q 43, .inl (E.2.1 0, 7, .inl a_dTo)), (q 44, .inl (E.2.1 0, 7, .inl a_dDays)), (q 45, .inl (E.2.1 0, 7, .inl a_dFirst)), (q 46, .inl (E.2.1 0, 7, .inl a_dLast))] → va_S A s.heap H locs → lv_has ls 11 [(0, .ref h0), (1, .int (nI cr)), (2, .int (nI po)), (3, .int da), (4, .int (nI se_)), (5, .int (nI ro)), (6, .int co_), (8, .int (nI k))] → W p l e ({ frames := 3, cells := 0, slots := 0, locals := 90 }) s m args below meth c H locs 0 0 Q (F0 m 78 ls []) := by
  have hK := hkn.1
  have hAO := hkn.2.2.1
  have fl106 := hts (.fieldLink RX12 106 "BoatsHomeModel" "dFrom" "[I") (by first | exact List.mem_of_getElem? (i := 5) rfl | decide +kernel)
  have fl109 := hts (.fieldLink RX12 109 "BoatsHomeModel" "dTo" "[I") (by first | exact List.mem_of_getElem? (i := 8) rfl | decide +kernel)
  have fl112 := hts (.fieldLink RX12 112 "BoatsHomeModel" "dDays" "[I") (by first | exact List.mem_of_getElem? (i := 9) rfl | decide +kernel)
  have fl115 := hts (.fieldLink RX12 115 "BoatsHomeModel" "dFirst" "[I") (by first | exact List.mem_of_getElem? (i := 6) rfl | decide +kernel)
  have fl118 := hts (.fieldLink RX12 118 "BoatsHomeModel" "dLast" "[I") (by first | exact List.mem_of_getElem? (i := 7) rfl | decide +kernel)
  have fl127 := hts (.fieldLink RX12 127 "BoatsHomeModel" "flights" "[I") (by first | exact List.mem_of_getElem? (i := 4) rfl | decide +kernel)
  have fl130 := hts (.fieldLink RX12 130 "BoatsHomeModel" "least" "[I") (by first | exact List.mem_of_getElem? (i := 1) rfl | decide +kernel)
  have fl133 := hts (.fieldLink RX12 133 "BoatsHomeModel" "order" "[I") (by first | exact List.mem_of_getElem? (i := 2) rfl | decide +kernel)
  have fl289 := hts (.fieldLink RX12 289 "BoatsHomeModel" "deliveries" "I") (by first | exact List.mem_of_getElem? (i := 3) rfl | decide +kernel)
  have inX12 : ∀ w ∈ u_ws RX12 TX12 59, w ∈ wsX12_tries := by first | exact fun w h9 => (List.mem_cons_of_mem _ (List.mem_append_right _ h9)) | decide +kernel
  intro n0
  induction n0 with
  | zero =>
    intro k a_least a_order H locs ls hn0
    exact absurd hn0 (Nat.not_lt_zero _)
  | succ n0 ih =>
    intro k a_least a_order H locs ls hn0 hk hI_order hP hD hS hl
    refine lv_iload hx hb dX12_tries_78 (lv_at hl 7 rfl) ?_
    refine lv_aload_n hx hb dX12_tries_80 rfl (lv_at hl 0 rfl) ?_
    refine va_get (D := E.1) (ci := 12) (v := .int (nI dl)) (C := RX12) (T := TX12) (N := 59) hx hb hts inX12 hown hK hP 0 rfl rfl 41 (by decide) fl289 (fun _ h9 => h9) rfl dX12_tries_81 ?_
    refine lv_icmp_ge (tgt := 246) hx hb dX12_tries_84 (by decide) (fun c_1 => ?_) (fun c_1 => ?_)
    · exact kk a_least a_order _ _ _ hI_order (hP.sub [0, 1, 2, 3, 4, 5, 6, 7, 8] rfl) (hD.sub [0, 1, 2, 3, 4, 5, 6, 7, 8] (by decide) rfl) hS (lv_sub hl [0] rfl)
    · have hlt : k < 7 := by have := lt_of_nle (by omega) c_1; omega
      refine lv_iload hx hb dX12_tries_87 (lv_at hl 4 rfl) ?_
      refine lv_iload hx hb dX12_tries_89 (lv_at hl 7 rfl) ?_
      refine lv_ishr hx hb dX12_tries_91 ?_
      refine lv_topi (fun x_2 ex_2 => ?_)
      refine lv_iconst (v := 1) hx hb dX12_tries_92 (by decide) ?_
      refine lv_iand hx hb dX12_tries_93 ?_
      refine lv_topi (fun x_3 ex_3 => ?_)
      refine lv_iconst (v := 1) hx hb dX12_tries_94 (by decide) ?_
      refine lv_icmp_eq (tgt := 240) hx hb dX12_tries_95 (by decide) (fun c_4 => ?_) (fun c_4 => ?_)
      · refine lv_iinc (v := (nI (k + 1))) (lv' := [(8, .int (nI (k + 1))), (0, .ref h0), (1, .int (nI cr)), (2, .int (nI po)), (3, .int da), (4, .int (nI se_)), (5, .int (nI ro)), (6, .int co_)]) hx hb dX12_tries_240 hl (k := 7) rfl (show nI k + 1 = nI (k + 1) from nI_1 k) (by decide) rfl (fun ls hl => ?_)
        refine lv_goto (tgt := 78) hx hb dX12_tries_243 (by decide) ?_
        exact ih (k + 1) a_least a_order _ _ _ (by omega) (by omega) hI_order (hP.sub [0, 1, 2, 3, 4, 5, 6, 7, 8] rfl) (hD.sub [0, 1, 2, 3, 4, 5, 6, 7, 8] (by decide) rfl) hS (lv_sub hl [1, 2, 3, 4, 5, 6, 7, 0] rfl)
      · refine lv_aload_n hx hb dX12_tries_98 rfl (lv_at hl 0 rfl) ?_
        refine va_get (D := E.1) (ci := 12) (v := .ref (q 49)) (C := RX12) (T := TX12) (N := 59) hx hb hts inX12 hown hK hP 0 rfl rfl 49 (by decide) fl127 (fun _ h9 => h9) rfl dX12_tries_99 ?_
        refine lv_bipush (v := 10) hx hb dX12_tries_102 (by decide) ?_
        refine lv_iload_n hx hb dX12_tries_104 rfl (lv_at hl 2 rfl) ?_
        refine lv_imul hx hb dX12_tries_105 ?_
        refine lv_topi (fun x_5 ex_5 => ?_)
        obtain rfl : x_5 = nI (10 * po) := ex_5.trans (pk_mul 10 po)
        refine lv_aload_n hx hb dX12_tries_106 rfl (lv_at hl 0 rfl) ?_
        refine va_get (D := E.1) (ci := 12) (v := .ref (q 42)) (C := RX12) (T := TX12) (N := 59) hx hb hts inX12 hown hK hP 0 rfl rfl 42 (by decide) fl106 (fun _ h9 => h9) rfl dX12_tries_107 ?_
        refine lv_iload hx hb dX12_tries_110 (lv_at hl 7 rfl) ?_
        have hi_6 : vp_in (nI k) 7 := vp_in_nI (by omega) (by decide)
        refine va_iald hx hb hK hP 4 0 rfl rfl hi_6 dX12_tries_112 ?_
        refine lv_topi (fun x_7 ex_7 => ?_)
        have hv_8 : inR x_7 0 9 = true := by rw [ex_7]; exact hI_dFrom _ (vin_cl hi_6)
        obtain ⟨w_9, hw_10, ew_11⟩ := inR_nI (n := 9) (by decide) hv_8
        subst ew_11
        refine lv_iadd hx hb dX12_tries_113 ?_
        refine lv_topi (fun x_12 ex_12 => ?_)
        obtain rfl : x_12 = nI ((10 * po) + w_9) := ex_12.trans (nI_add (10 * po) w_9)
        have hi_13 : vp_in (nI ((10 * po) + w_9)) 100 := vp_in_nI (by omega) (by decide)
        refine va_iald hx hb hK hP 3 0 rfl rfl hi_13 dX12_tries_114 ?_
        refine lv_topi (fun x_14 ex_14 => ?_)
        refine lv_iconst (v := (-1)) hx hb dX12_tries_115 (by decide) ?_
        refine lv_icmp_ne (tgt := 122) hx hb dX12_tries_116 (by decide) (fun c_15 => ?_) (fun c_15 => ?_)
        · refine lv_iload_n hx hb dX12_tries_122 rfl (lv_at hl 3 rfl) ?_
          refine lv_iload_n hx hb dX12_tries_123 rfl (lv_at hl 2 rfl) ?_
          refine lv_aload_n hx hb dX12_tries_124 rfl (lv_at hl 0 rfl) ?_
          refine va_get (D := E.1) (ci := 12) (v := .ref (q 42)) (C := RX12) (T := TX12) (N := 59) hx hb hts inX12 hown hK hP 0 rfl rfl 42 (by decide) fl106 (fun _ h9 => h9) rfl dX12_tries_125 ?_
          refine lv_iload hx hb dX12_tries_128 (lv_at hl 7 rfl) ?_
          refine va_iald hx hb hK hP 4 0 rfl rfl hi_6 dX12_tries_130 ?_
          refine lv_topi (fun x_16 ex_16 => ?_)
          obtain rfl : x_16 = nI w_9 := ex_16.trans ex_7.symm
          refine lv_icmp_ne (tgt := 138) hx hb dX12_tries_131 (by decide) (fun c_17 => ?_) (fun c_17 => ?_)
          · refine lv_iconst (v := 1) hx hb dX12_tries_138 (by decide) ?_
            refine lv_iadd hx hb dX12_tries_139 ?_
            refine lv_topi (fun x_18 ex_18 => ?_)
            refine lv_istore (lv' := [(9, .int x_18), (0, .ref h0), (1, .int (nI cr)), (2, .int (nI po)), (3, .int da), (4, .int (nI se_)), (5, .int (nI ro)), (6, .int co_), (8, .int (nI k))]) hx hb dX12_tries_140 hl (by decide) rfl (fun ls hl => ?_)
            refine lv_iload hx hb dX12_tries_142 (lv_at hl 0 rfl) ?_
            refine lv_aload_n hx hb dX12_tries_144 rfl (lv_at hl 1 rfl) ?_
            refine va_get (D := E.1) (ci := 12) (v := .ref (q 45)) (C := RX12) (T := TX12) (N := 59) hx hb hts inX12 hown hK hP 0 rfl rfl 45 (by decide) fl115 (fun _ h9 => h9) rfl dX12_tries_145 ?_
            refine lv_iload hx hb dX12_tries_148 (lv_at hl 8 rfl) ?_
            refine va_iald hx hb hK hP 7 0 rfl rfl hi_6 dX12_tries_150 ?_
            refine lv_topi (fun x_19 ex_19 => ?_)
            refine lv_icmp_le (tgt := 159) hx hb dX12_tries_151 (by decide) (fun c_20 => ?_) (fun c_20 => ?_)
            · refine lv_aload_n hx hb dX12_tries_159 rfl (lv_at hl 1 rfl) ?_
              refine va_get (D := E.1) (ci := 12) (v := .ref (q 45)) (C := RX12) (T := TX12) (N := 59) hx hb hts inX12 hown hK hP 0 rfl rfl 45 (by decide) fl115 (fun _ h9 => h9) rfl dX12_tries_160 ?_
              refine lv_iload hx hb dX12_tries_163 (lv_at hl 8 rfl) ?_
              refine va_iald hx hb hK hP 7 0 rfl rfl hi_6 dX12_tries_165 ?_
              refine lv_topi (fun x_21 ex_21 => ?_)
              refine lv_istore (lv' := [(10, .int x_21), (9, .int x_18), (0, .ref h0), (1, .int (nI cr)), (2, .int (nI po)), (3, .int da), (4, .int (nI se_)), (5, .int (nI ro)), (6, .int co_), (8, .int (nI k))]) hx hb dX12_tries_166 hl (by decide) rfl (fun ls hl => ?_)
              refine lv_iload hx hb dX12_tries_168 (lv_at hl 0 rfl) ?_
              refine lv_aload_n hx hb dX12_tries_170 rfl (lv_at hl 2 rfl) ?_
              refine va_get (D := E.1) (ci := 12) (v := .ref (q 46)) (C := RX12) (T := TX12) (N := 59) hx hb hts inX12 hown hK hP 0 rfl rfl 46 (by decide) fl118 (fun _ h9 => h9) rfl dX12_tries_171 ?_
              refine lv_iload hx hb dX12_tries_174 (lv_at hl 9 rfl) ?_
              refine va_iald hx hb hK hP 8 0 rfl rfl hi_6 dX12_tries_176 ?_
              refine lv_topi (fun x_22 ex_22 => ?_)
              refine lv_icmp_le (tgt := 183) hx hb dX12_tries_177 (by decide) (fun c_23 => ?_) (fun c_23 => ?_)
              · refine lv_aload_n hx hb dX12_tries_183 rfl (lv_at hl 2 rfl) ?_
                refine lv_iload_n hx hb dX12_tries_184 rfl (lv_at hl 3 rfl) ?_
                refine lv_aload_n hx hb dX12_tries_185 rfl (lv_at hl 2 rfl) ?_
                refine va_get (D := E.1) (ci := 12) (v := .ref (q 43)) (C := RX12) (T := TX12) (N := 59) hx hb hts inX12 hown hK hP 0 rfl rfl 43 (by decide) fl109 (fun _ h9 => h9) rfl dX12_tries_186 ?_
                refine lv_iload hx hb dX12_tries_189 (lv_at hl 9 rfl) ?_
                refine va_iald hx hb hK hP 5 0 rfl rfl hi_6 dX12_tries_191 ?_
                refine lv_topi (fun x_24 ex_24 => ?_)
                have hv_25 : inR x_24 0 9 = true := by rw [ex_24]; exact hI_dTo _ (vin_cl hi_6)
                obtain ⟨w_26, hw_27, ew_28⟩ := inR_nI (n := 9) (by decide) hv_25
                subst ew_28
                refine lv_iload hx hb dX12_tries_192 (lv_at hl 0 rfl) ?_
                refine lv_aload_n hx hb dX12_tries_194 rfl (lv_at hl 2 rfl) ?_
                refine va_get (D := E.1) (ci := 12) (v := .ref (q 44)) (C := RX12) (T := TX12) (N := 59) hx hb hts inX12 hown hK hP 0 rfl rfl 44 (by decide) fl112 (fun _ h9 => h9) rfl dX12_tries_195 ?_
                refine lv_iload hx hb dX12_tries_198 (lv_at hl 9 rfl) ?_
                refine va_iald hx hb hK hP 6 0 rfl rfl hi_6 dX12_tries_200 ?_
                refine lv_topi (fun x_29 ex_29 => ?_)
                refine lv_iadd hx hb dX12_tries_201 ?_
                refine lv_topi (fun x_30 ex_30 => ?_)
                refine lv_iload hx hb dX12_tries_202 (lv_at hl 6 rfl) ?_
                refine lv_iconst (v := 1) hx hb dX12_tries_204 (by decide) ?_
                refine lv_iload hx hb dX12_tries_205 (lv_at hl 9 rfl) ?_
                refine lv_ishl hx hb dX12_tries_207 ?_
                refine lv_topi (fun x_31 ex_31 => ?_)
                refine lv_ior hx hb dX12_tries_208 ?_
                refine lv_topi (fun x_32 ex_32 => ?_)
                obtain ⟨w_33, hw_34, hw_34b, hw_34e⟩ : ∃ w, w < 128 ∧ bc7 w = 4 + 1 ∧ x_32 = nI w := by rw [ex_32, ex_31]; exact tr_bit hse hlt hbc (by rw [ex_3, ex_2] at c_4; exact c_4)
                subst hw_34e
                refine lv_bipush (v := 8) hx hb dX12_tries_209 (by decide) ?_
                refine lv_iload hx hb dX12_tries_211 (lv_at hl 7 rfl) ?_
                refine lv_imul hx hb dX12_tries_213 ?_
                refine lv_topi (fun x_35 ex_35 => ?_)
                obtain rfl : x_35 = nI (8 * ro) := ex_35.trans (pk_mul 8 ro)
                refine lv_iload hx hb dX12_tries_214 (lv_at hl 9 rfl) ?_
                refine lv_iadd hx hb dX12_tries_216 ?_
                refine lv_topi (fun x_36 ex_36 => ?_)
                obtain rfl : x_36 = nI ((8 * ro) + k) := ex_36.trans (nI_add (8 * ro) k)
                refine lv_iload hx hb dX12_tries_217 (lv_at hl 8 rfl) ?_
                refine lv_aload_n hx hb dX12_tries_219 rfl (lv_at hl 2 rfl) ?_
                refine va_get (D := E.1) (ci := 12) (v := .ref (q 49)) (C := RX12) (T := TX12) (N := 59) hx hb hts inX12 hown hK hP 0 rfl rfl 49 (by decide) fl127 (fun _ h9 => h9) rfl dX12_tries_220 ?_
                refine lv_bipush (v := 10) hx hb dX12_tries_223 (by decide) ?_
                refine lv_iload_n hx hb dX12_tries_225 rfl (lv_at hl 4 rfl) ?_
                refine lv_imul hx hb dX12_tries_226 ?_
                refine lv_topi (fun x_37 ex_37 => ?_)
                obtain rfl : x_37 = nI (10 * po) := ex_37.trans (pk_mul 10 po)
                refine lv_aload_n hx hb dX12_tries_227 rfl (lv_at hl 2 rfl) ?_
                refine va_get (D := E.1) (ci := 12) (v := .ref (q 42)) (C := RX12) (T := TX12) (N := 59) hx hb hts inX12 hown hK hP 0 rfl rfl 42 (by decide) fl106 (fun _ h9 => h9) rfl dX12_tries_228 ?_
                refine lv_iload hx hb dX12_tries_231 (lv_at hl 9 rfl) ?_
                refine va_iald hx hb hK hP 4 0 rfl rfl hi_6 dX12_tries_233 ?_
                refine lv_topi (fun x_38 ex_38 => ?_)
                obtain rfl : x_38 = nI w_9 := ex_38.trans ex_7.symm
                refine lv_iadd hx hb dX12_tries_234 ?_
                refine lv_topi (fun x_39 ex_39 => ?_)
                obtain rfl : x_39 = nI ((10 * po) + w_9) := ex_39.trans (nI_add (10 * po) w_9)
                refine va_iald hx hb hK hP 3 0 rfl rfl hi_13 dX12_tries_235 ?_
                refine lv_topi (fun x_40 ex_40 => ?_)
                refine lv_iadd hx hb dX12_tries_236 ?_
                refine lv_topi (fun x_41 ex_41 => ?_)
                have hPc := hP.sub (ws' := [(h0, .inr (12, mG q i_taped i_size i_sort i_what i_at i_end i_worth i_faultKind i_faultPlace i_got i_worked (nI dl) i_isPlanned i_bestDone i_bestCost)), (q 51, .inl (E.2.1 0, 512, .inl a_least)), (q 52, .inl (E.2.1 0, 512, .inl a_order)), (q 49, .inl (E.2.1 0, 100, .inl a_flights)), (q 42, .inl (E.2.1 0, 7, .inl a_dFrom)), (q 43, .inl (E.2.1 0, 7, .inl a_dTo)), (q 44, .inl (E.2.1 0, 7, .inl a_dDays)), (q 45, .inl (E.2.1 0, 7, .inl a_dFirst)), (q 46, .inl (E.2.1 0, 7, .inl a_dLast))]) [0, 1, 2, 3, 4, 5, 6, 7, 8] rfl
                have hDc := hD.sub (ws' := [(h0, .inr (12, mG q i_taped i_size i_sort i_what i_at i_end i_worth i_faultKind i_faultPlace i_got i_worked (nI dl) i_isPlanned i_bestDone i_bestCost)), (q 51, .inl (E.2.1 0, 512, .inl a_least)), (q 52, .inl (E.2.1 0, 512, .inl a_order)), (q 49, .inl (E.2.1 0, 100, .inl a_flights)), (q 42, .inl (E.2.1 0, 7, .inl a_dFrom)), (q 43, .inl (E.2.1 0, 7, .inl a_dTo)), (q 44, .inl (E.2.1 0, 7, .inl a_dDays)), (q 45, .inl (E.2.1 0, 7, .inl a_dFirst)), (q 46, .inl (E.2.1 0, 7, .inl a_dLast))]) [0, 1, 2, 3, 4, 5, 6, 7, 8] (by decide) rfl
                have hFc := va_free (wc := [(h0, .inr (12, mG q i_taped i_size i_sort i_what i_at i_end i_worth i_faultKind i_faultPlace i_got i_worked (nI dl) i_isPlanned i_bestDone i_bestCost)), (q 51, .inl (E.2.1 0, 512, .inl a_least)), (q 52, .inl (E.2.1 0, 512, .inl a_order)), (q 49, .inl (E.2.1 0, 100, .inl a_flights)), (q 42, .inl (E.2.1 0, 7, .inl a_dFrom)), (q 43, .inl (E.2.1 0, 7, .inl a_dTo)), (q 44, .inl (E.2.1 0, 7, .inl a_dDays)), (q 45, .inl (E.2.1 0, 7, .inl a_dFirst)), (q 46, .inl (E.2.1 0, 7, .inl a_dLast))]) hD hS hA [0, 1, 2, 3, 4, 5, 6, 7, 8] rfl
                refine va_callv (va_runV (As := [.int (nI cr), .int (nI w_26), .int x_30, .int (nI w_33), .int (nI ((8 * ro) + k)), .int x_41]) (rest := []) ⟨hx, hb, hml, hown, hts⟩ (c_X12_tries5 l E h0 q i_taped i_size i_sort i_what i_at i_end i_worth i_faultKind i_faultPlace i_got i_worked i_isPlanned i_bestDone i_bestCost dl cr w_26 w_33 ((8 * ro) + k) a_least a_order a_flights a_dFrom a_dTo a_dDays a_dFirst a_dLast x_30 x_41 H.size hcr (by omega) hw_34 hdl hw_34b (dg_step hro hlt) hI_order hI_dFrom hI_dTo) (cwV 6 hts gX12_tries_X12_tries rfl rfl rfl hdV_X12_tries ⟨Nat.le_of_ble_eq_true rfl, Nat.le_of_ble_eq_true rfl⟩) ⟨pcW_blind, va_recv hK hPc (ci := 12) (q0 := 0) rfl rfl, (pcW_pre hPc hkn hDc hst hS hFc)⟩ rfl rfl hl.1 rfl (lv_room (Nat.le_of_ble_eq_true rfl)) dX12_tries_237 ⟨Nat.le_of_ble_eq_true rfl, Nat.le_of_ble_eq_true rfl⟩) hS (fun q _ h => hFc q h) hFc (fun u t H1 locs ht hvm hw_43 hB hz1 hk1 hS => ?_)
                obtain ⟨u_44, u_45⟩ := u
                obtain ⟨hf_46, hP1, hD1⟩ := hB
                rw [ht] at hP1
                try dsimp only at hw_43
                obtain ⟨hP, hD⟩ := va_join (wr := []) (w1 := [(h0, .inr (12, mG q i_taped i_size i_sort i_what i_at i_end i_worth i_faultKind i_faultPlace i_got i_worked (nI dl) i_isPlanned i_bestDone i_bestCost)), (q 51, .inl (E.2.1 0, 512, .inl u_44)), (q 52, .inl (E.2.1 0, 512, .inl u_45)), (q 49, .inl (E.2.1 0, 100, .inl a_flights)), (q 42, .inl (E.2.1 0, 7, .inl a_dFrom)), (q 43, .inl (E.2.1 0, 7, .inl a_dTo)), (q 44, .inl (E.2.1 0, 7, .inl a_dDays)), (q 45, .inl (E.2.1 0, 7, .inl a_dFirst)), (q 46, .inl (E.2.1 0, 7, .inl a_dLast))]) hP hD [0, 1, 2, 3, 4, 5, 6, 7, 8] [] rfl rfl (by decide) (by decide) hk1 hFc hP1 hD1
                generalize H1 = H at hP hS ⊢
                have hP : va_P E.1 vwCl [(h0, .inr (12, mG q i_taped i_size i_sort i_what i_at i_end i_worth i_faultKind i_faultPlace i_got i_worked (nI dl) i_isPlanned i_bestDone i_bestCost)), (q 51, .inl (E.2.1 0, 512, .inl u_44)), (q 52, .inl (E.2.1 0, 512, .inl u_45)), (q 49, .inl (E.2.1 0, 100, .inl a_flights)), (q 42, .inl (E.2.1 0, 7, .inl a_dFrom)), (q 43, .inl (E.2.1 0, 7, .inl a_dTo)), (q 44, .inl (E.2.1 0, 7, .inl a_dDays)), (q 45, .inl (E.2.1 0, 7, .inl a_dFirst)), (q 46, .inl (E.2.1 0, 7, .inl a_dLast))] H := hP
                have hD : va_D A [(h0, .inr (12, mG q i_taped i_size i_sort i_what i_at i_end i_worth i_faultKind i_faultPlace i_got i_worked (nI dl) i_isPlanned i_bestDone i_bestCost)), (q 51, .inl (E.2.1 0, 512, .inl u_44)), (q 52, .inl (E.2.1 0, 512, .inl u_45)), (q 49, .inl (E.2.1 0, 100, .inl a_flights)), (q 42, .inl (E.2.1 0, 7, .inl a_dFrom)), (q 43, .inl (E.2.1 0, 7, .inl a_dTo)), (q 44, .inl (E.2.1 0, 7, .inl a_dDays)), (q 45, .inl (E.2.1 0, 7, .inl a_dFirst)), (q 46, .inl (E.2.1 0, 7, .inl a_dLast))] := hD
                refine lv_iinc (v := (nI (k + 1))) (lv' := [(8, .int (nI (k + 1))), (10, .int x_21), (9, .int x_18), (0, .ref h0), (1, .int (nI cr)), (2, .int (nI po)), (3, .int da), (4, .int (nI se_)), (5, .int (nI ro)), (6, .int co_)]) hx hb dX12_tries_240 hl (k := 9) rfl (show nI k + 1 = nI (k + 1) from nI_1 k) (by decide) rfl (fun ls hl => ?_)
                refine lv_goto (tgt := 78) hx hb dX12_tries_243 (by decide) ?_
                exact ih (k + 1) u_44 u_45 _ _ _ (by omega) (by omega) hf_46 (hP.sub [0, 1, 2, 3, 4, 5, 6, 7, 8] rfl) (hD.sub [0, 1, 2, 3, 4, 5, 6, 7, 8] (by decide) rfl) hS (lv_sub hl [3, 4, 5, 6, 7, 8, 9, 0] rfl)
              · refine lv_goto (tgt := 240) hx hb dX12_tries_180 (by decide) ?_
                refine lv_iinc (v := (nI (k + 1))) (lv' := [(8, .int (nI (k + 1))), (10, .int x_21), (9, .int x_18), (0, .ref h0), (1, .int (nI cr)), (2, .int (nI po)), (3, .int da), (4, .int (nI se_)), (5, .int (nI ro)), (6, .int co_)]) hx hb dX12_tries_240 hl (k := 9) rfl (show nI k + 1 = nI (k + 1) from nI_1 k) (by decide) rfl (fun ls hl => ?_)
                refine lv_goto (tgt := 78) hx hb dX12_tries_243 (by decide) ?_
                exact ih (k + 1) a_least a_order _ _ _ (by omega) (by omega) hI_order (hP.sub [0, 1, 2, 3, 4, 5, 6, 7, 8] rfl) (hD.sub [0, 1, 2, 3, 4, 5, 6, 7, 8] (by decide) rfl) hS (lv_sub hl [3, 4, 5, 6, 7, 8, 9, 0] rfl)
            · refine lv_iload hx hb dX12_tries_154 (lv_at hl 0 rfl) ?_
              refine lv_goto (tgt := 166) hx hb dX12_tries_156 (by decide) ?_
              refine lv_istore (lv' := [(10, .int x_18), (9, .int x_18), (0, .ref h0), (1, .int (nI cr)), (2, .int (nI po)), (3, .int da), (4, .int (nI se_)), (5, .int (nI ro)), (6, .int co_), (8, .int (nI k))]) hx hb dX12_tries_166 hl (by decide) rfl (fun ls hl => ?_)
              refine lv_iload hx hb dX12_tries_168 (lv_at hl 0 rfl) ?_
              refine lv_aload_n hx hb dX12_tries_170 rfl (lv_at hl 2 rfl) ?_
              refine va_get (D := E.1) (ci := 12) (v := .ref (q 46)) (C := RX12) (T := TX12) (N := 59) hx hb hts inX12 hown hK hP 0 rfl rfl 46 (by decide) fl118 (fun _ h9 => h9) rfl dX12_tries_171 ?_
              refine lv_iload hx hb dX12_tries_174 (lv_at hl 9 rfl) ?_
              refine va_iald hx hb hK hP 8 0 rfl rfl hi_6 dX12_tries_176 ?_
              refine lv_topi (fun x_47 ex_47 => ?_)
              refine lv_icmp_le (tgt := 183) hx hb dX12_tries_177 (by decide) (fun c_48 => ?_) (fun c_48 => ?_)
              · refine lv_aload_n hx hb dX12_tries_183 rfl (lv_at hl 2 rfl) ?_
                refine lv_iload_n hx hb dX12_tries_184 rfl (lv_at hl 3 rfl) ?_
                refine lv_aload_n hx hb dX12_tries_185 rfl (lv_at hl 2 rfl) ?_
                refine va_get (D := E.1) (ci := 12) (v := .ref (q 43)) (C := RX12) (T := TX12) (N := 59) hx hb hts inX12 hown hK hP 0 rfl rfl 43 (by decide) fl109 (fun _ h9 => h9) rfl dX12_tries_186 ?_
                refine lv_iload hx hb dX12_tries_189 (lv_at hl 9 rfl) ?_
                refine va_iald hx hb hK hP 5 0 rfl rfl hi_6 dX12_tries_191 ?_
                refine lv_topi (fun x_49 ex_49 => ?_)
                have hv_50 : inR x_49 0 9 = true := by rw [ex_49]; exact hI_dTo _ (vin_cl hi_6)
                obtain ⟨w_51, hw_52, ew_53⟩ := inR_nI (n := 9) (by decide) hv_50
                subst ew_53
                refine lv_iload hx hb dX12_tries_192 (lv_at hl 0 rfl) ?_
                refine lv_aload_n hx hb dX12_tries_194 rfl (lv_at hl 2 rfl) ?_
                refine va_get (D := E.1) (ci := 12) (v := .ref (q 44)) (C := RX12) (T := TX12) (N := 59) hx hb hts inX12 hown hK hP 0 rfl rfl 44 (by decide) fl112 (fun _ h9 => h9) rfl dX12_tries_195 ?_
                refine lv_iload hx hb dX12_tries_198 (lv_at hl 9 rfl) ?_
                refine va_iald hx hb hK hP 6 0 rfl rfl hi_6 dX12_tries_200 ?_
                refine lv_topi (fun x_54 ex_54 => ?_)
                refine lv_iadd hx hb dX12_tries_201 ?_
                refine lv_topi (fun x_55 ex_55 => ?_)
                refine lv_iload hx hb dX12_tries_202 (lv_at hl 6 rfl) ?_
                refine lv_iconst (v := 1) hx hb dX12_tries_204 (by decide) ?_
                refine lv_iload hx hb dX12_tries_205 (lv_at hl 9 rfl) ?_
                refine lv_ishl hx hb dX12_tries_207 ?_
                refine lv_topi (fun x_56 ex_56 => ?_)
                refine lv_ior hx hb dX12_tries_208 ?_
                refine lv_topi (fun x_57 ex_57 => ?_)
                obtain ⟨w_58, hw_59, hw_59b, hw_59e⟩ : ∃ w, w < 128 ∧ bc7 w = 4 + 1 ∧ x_57 = nI w := by rw [ex_57, ex_56]; exact tr_bit hse hlt hbc (by rw [ex_3, ex_2] at c_4; exact c_4)
                subst hw_59e
                refine lv_bipush (v := 8) hx hb dX12_tries_209 (by decide) ?_
                refine lv_iload hx hb dX12_tries_211 (lv_at hl 7 rfl) ?_
                refine lv_imul hx hb dX12_tries_213 ?_
                refine lv_topi (fun x_60 ex_60 => ?_)
                obtain rfl : x_60 = nI (8 * ro) := ex_60.trans (pk_mul 8 ro)
                refine lv_iload hx hb dX12_tries_214 (lv_at hl 9 rfl) ?_
                refine lv_iadd hx hb dX12_tries_216 ?_
                refine lv_topi (fun x_61 ex_61 => ?_)
                obtain rfl : x_61 = nI ((8 * ro) + k) := ex_61.trans (nI_add (8 * ro) k)
                refine lv_iload hx hb dX12_tries_217 (lv_at hl 8 rfl) ?_
                refine lv_aload_n hx hb dX12_tries_219 rfl (lv_at hl 2 rfl) ?_
                refine va_get (D := E.1) (ci := 12) (v := .ref (q 49)) (C := RX12) (T := TX12) (N := 59) hx hb hts inX12 hown hK hP 0 rfl rfl 49 (by decide) fl127 (fun _ h9 => h9) rfl dX12_tries_220 ?_
                refine lv_bipush (v := 10) hx hb dX12_tries_223 (by decide) ?_
                refine lv_iload_n hx hb dX12_tries_225 rfl (lv_at hl 4 rfl) ?_
                refine lv_imul hx hb dX12_tries_226 ?_
                refine lv_topi (fun x_62 ex_62 => ?_)
                obtain rfl : x_62 = nI (10 * po) := ex_62.trans (pk_mul 10 po)
                refine lv_aload_n hx hb dX12_tries_227 rfl (lv_at hl 2 rfl) ?_
                refine va_get (D := E.1) (ci := 12) (v := .ref (q 42)) (C := RX12) (T := TX12) (N := 59) hx hb hts inX12 hown hK hP 0 rfl rfl 42 (by decide) fl106 (fun _ h9 => h9) rfl dX12_tries_228 ?_
                refine lv_iload hx hb dX12_tries_231 (lv_at hl 9 rfl) ?_
                refine va_iald hx hb hK hP 4 0 rfl rfl hi_6 dX12_tries_233 ?_
                refine lv_topi (fun x_63 ex_63 => ?_)
                obtain rfl : x_63 = nI w_9 := ex_63.trans ex_7.symm
                refine lv_iadd hx hb dX12_tries_234 ?_
                refine lv_topi (fun x_64 ex_64 => ?_)
                obtain rfl : x_64 = nI ((10 * po) + w_9) := ex_64.trans (nI_add (10 * po) w_9)
                refine va_iald hx hb hK hP 3 0 rfl rfl hi_13 dX12_tries_235 ?_
                refine lv_topi (fun x_65 ex_65 => ?_)
                refine lv_iadd hx hb dX12_tries_236 ?_
                refine lv_topi (fun x_66 ex_66 => ?_)
                have hPc := hP.sub (ws' := [(h0, .inr (12, mG q i_taped i_size i_sort i_what i_at i_end i_worth i_faultKind i_faultPlace i_got i_worked (nI dl) i_isPlanned i_bestDone i_bestCost)), (q 51, .inl (E.2.1 0, 512, .inl a_least)), (q 52, .inl (E.2.1 0, 512, .inl a_order)), (q 49, .inl (E.2.1 0, 100, .inl a_flights)), (q 42, .inl (E.2.1 0, 7, .inl a_dFrom)), (q 43, .inl (E.2.1 0, 7, .inl a_dTo)), (q 44, .inl (E.2.1 0, 7, .inl a_dDays)), (q 45, .inl (E.2.1 0, 7, .inl a_dFirst)), (q 46, .inl (E.2.1 0, 7, .inl a_dLast))]) [0, 1, 2, 3, 4, 5, 6, 7, 8] rfl
                have hDc := hD.sub (ws' := [(h0, .inr (12, mG q i_taped i_size i_sort i_what i_at i_end i_worth i_faultKind i_faultPlace i_got i_worked (nI dl) i_isPlanned i_bestDone i_bestCost)), (q 51, .inl (E.2.1 0, 512, .inl a_least)), (q 52, .inl (E.2.1 0, 512, .inl a_order)), (q 49, .inl (E.2.1 0, 100, .inl a_flights)), (q 42, .inl (E.2.1 0, 7, .inl a_dFrom)), (q 43, .inl (E.2.1 0, 7, .inl a_dTo)), (q 44, .inl (E.2.1 0, 7, .inl a_dDays)), (q 45, .inl (E.2.1 0, 7, .inl a_dFirst)), (q 46, .inl (E.2.1 0, 7, .inl a_dLast))]) [0, 1, 2, 3, 4, 5, 6, 7, 8] (by decide) rfl
                have hFc := va_free (wc := [(h0, .inr (12, mG q i_taped i_size i_sort i_what i_at i_end i_worth i_faultKind i_faultPlace i_got i_worked (nI dl) i_isPlanned i_bestDone i_bestCost)), (q 51, .inl (E.2.1 0, 512, .inl a_least)), (q 52, .inl (E.2.1 0, 512, .inl a_order)), (q 49, .inl (E.2.1 0, 100, .inl a_flights)), (q 42, .inl (E.2.1 0, 7, .inl a_dFrom)), (q 43, .inl (E.2.1 0, 7, .inl a_dTo)), (q 44, .inl (E.2.1 0, 7, .inl a_dDays)), (q 45, .inl (E.2.1 0, 7, .inl a_dFirst)), (q 46, .inl (E.2.1 0, 7, .inl a_dLast))]) hD hS hA [0, 1, 2, 3, 4, 5, 6, 7, 8] rfl
                refine va_callv (va_runV (As := [.int (nI cr), .int (nI w_51), .int x_55, .int (nI w_58), .int (nI ((8 * ro) + k)), .int x_66]) (rest := []) ⟨hx, hb, hml, hown, hts⟩ (c_X12_tries5 l E h0 q i_taped i_size i_sort i_what i_at i_end i_worth i_faultKind i_faultPlace i_got i_worked i_isPlanned i_bestDone i_bestCost dl cr w_51 w_58 ((8 * ro) + k) a_least a_order a_flights a_dFrom a_dTo a_dDays a_dFirst a_dLast x_55 x_66 H.size hcr (by omega) hw_59 hdl hw_59b (dg_step hro hlt) hI_order hI_dFrom hI_dTo) (cwV 6 hts gX12_tries_X12_tries rfl rfl rfl hdV_X12_tries ⟨Nat.le_of_ble_eq_true rfl, Nat.le_of_ble_eq_true rfl⟩) ⟨pcW_blind, va_recv hK hPc (ci := 12) (q0 := 0) rfl rfl, (pcW_pre hPc hkn hDc hst hS hFc)⟩ rfl rfl hl.1 rfl (lv_room (Nat.le_of_ble_eq_true rfl)) dX12_tries_237 ⟨Nat.le_of_ble_eq_true rfl, Nat.le_of_ble_eq_true rfl⟩) hS (fun q _ h => hFc q h) hFc (fun u t H1 locs ht hvm hw_68 hB hz1 hk1 hS => ?_)
                obtain ⟨u_69, u_70⟩ := u
                obtain ⟨hf_71, hP1, hD1⟩ := hB
                rw [ht] at hP1
                try dsimp only at hw_68
                obtain ⟨hP, hD⟩ := va_join (wr := []) (w1 := [(h0, .inr (12, mG q i_taped i_size i_sort i_what i_at i_end i_worth i_faultKind i_faultPlace i_got i_worked (nI dl) i_isPlanned i_bestDone i_bestCost)), (q 51, .inl (E.2.1 0, 512, .inl u_69)), (q 52, .inl (E.2.1 0, 512, .inl u_70)), (q 49, .inl (E.2.1 0, 100, .inl a_flights)), (q 42, .inl (E.2.1 0, 7, .inl a_dFrom)), (q 43, .inl (E.2.1 0, 7, .inl a_dTo)), (q 44, .inl (E.2.1 0, 7, .inl a_dDays)), (q 45, .inl (E.2.1 0, 7, .inl a_dFirst)), (q 46, .inl (E.2.1 0, 7, .inl a_dLast))]) hP hD [0, 1, 2, 3, 4, 5, 6, 7, 8] [] rfl rfl (by decide) (by decide) hk1 hFc hP1 hD1
                generalize H1 = H at hP hS ⊢
                have hP : va_P E.1 vwCl [(h0, .inr (12, mG q i_taped i_size i_sort i_what i_at i_end i_worth i_faultKind i_faultPlace i_got i_worked (nI dl) i_isPlanned i_bestDone i_bestCost)), (q 51, .inl (E.2.1 0, 512, .inl u_69)), (q 52, .inl (E.2.1 0, 512, .inl u_70)), (q 49, .inl (E.2.1 0, 100, .inl a_flights)), (q 42, .inl (E.2.1 0, 7, .inl a_dFrom)), (q 43, .inl (E.2.1 0, 7, .inl a_dTo)), (q 44, .inl (E.2.1 0, 7, .inl a_dDays)), (q 45, .inl (E.2.1 0, 7, .inl a_dFirst)), (q 46, .inl (E.2.1 0, 7, .inl a_dLast))] H := hP
                have hD : va_D A [(h0, .inr (12, mG q i_taped i_size i_sort i_what i_at i_end i_worth i_faultKind i_faultPlace i_got i_worked (nI dl) i_isPlanned i_bestDone i_bestCost)), (q 51, .inl (E.2.1 0, 512, .inl u_69)), (q 52, .inl (E.2.1 0, 512, .inl u_70)), (q 49, .inl (E.2.1 0, 100, .inl a_flights)), (q 42, .inl (E.2.1 0, 7, .inl a_dFrom)), (q 43, .inl (E.2.1 0, 7, .inl a_dTo)), (q 44, .inl (E.2.1 0, 7, .inl a_dDays)), (q 45, .inl (E.2.1 0, 7, .inl a_dFirst)), (q 46, .inl (E.2.1 0, 7, .inl a_dLast))] := hD
                refine lv_iinc (v := (nI (k + 1))) (lv' := [(8, .int (nI (k + 1))), (10, .int x_18), (9, .int x_18), (0, .ref h0), (1, .int (nI cr)), (2, .int (nI po)), (3, .int da), (4, .int (nI se_)), (5, .int (nI ro)), (6, .int co_)]) hx hb dX12_tries_240 hl (k := 9) rfl (show nI k + 1 = nI (k + 1) from nI_1 k) (by decide) rfl (fun ls hl => ?_)
                refine lv_goto (tgt := 78) hx hb dX12_tries_243 (by decide) ?_
                exact ih (k + 1) u_69 u_70 _ _ _ (by omega) (by omega) hf_71 (hP.sub [0, 1, 2, 3, 4, 5, 6, 7, 8] rfl) (hD.sub [0, 1, 2, 3, 4, 5, 6, 7, 8] (by decide) rfl) hS (lv_sub hl [3, 4, 5, 6, 7, 8, 9, 0] rfl)
              · refine lv_goto (tgt := 240) hx hb dX12_tries_180 (by decide) ?_
                refine lv_iinc (v := (nI (k + 1))) (lv' := [(8, .int (nI (k + 1))), (10, .int x_18), (9, .int x_18), (0, .ref h0), (1, .int (nI cr)), (2, .int (nI po)), (3, .int da), (4, .int (nI se_)), (5, .int (nI ro)), (6, .int co_)]) hx hb dX12_tries_240 hl (k := 9) rfl (show nI k + 1 = nI (k + 1) from nI_1 k) (by decide) rfl (fun ls hl => ?_)
                refine lv_goto (tgt := 78) hx hb dX12_tries_243 (by decide) ?_
                exact ih (k + 1) a_least a_order _ _ _ (by omega) (by omega) hI_order (hP.sub [0, 1, 2, 3, 4, 5, 6, 7, 8] rfl) (hD.sub [0, 1, 2, 3, 4, 5, 6, 7, 8] (by decide) rfl) hS (lv_sub hl [3, 4, 5, 6, 7, 8, 9, 0] rfl)
          · refine lv_iconst (v := 0) hx hb dX12_tries_134 (by decide) ?_
            refine lv_goto (tgt := 139) hx hb dX12_tries_135 (by decide) ?_
            refine lv_iadd hx hb dX12_tries_139 ?_
            refine lv_topi (fun x_72 ex_72 => ?_)
            refine lv_istore (lv' := [(9, .int x_72), (0, .ref h0), (1, .int (nI cr)), (2, .int (nI po)), (3, .int da), (4, .int (nI se_)), (5, .int (nI ro)), (6, .int co_), (8, .int (nI k))]) hx hb dX12_tries_140 hl (by decide) rfl (fun ls hl => ?_)
            refine lv_iload hx hb dX12_tries_142 (lv_at hl 0 rfl) ?_
            refine lv_aload_n hx hb dX12_tries_144 rfl (lv_at hl 1 rfl) ?_
            refine va_get (D := E.1) (ci := 12) (v := .ref (q 45)) (C := RX12) (T := TX12) (N := 59) hx hb hts inX12 hown hK hP 0 rfl rfl 45 (by decide) fl115 (fun _ h9 => h9) rfl dX12_tries_145 ?_
            refine lv_iload hx hb dX12_tries_148 (lv_at hl 8 rfl) ?_
            refine va_iald hx hb hK hP 7 0 rfl rfl hi_6 dX12_tries_150 ?_
            refine lv_topi (fun x_73 ex_73 => ?_)
            refine lv_icmp_le (tgt := 159) hx hb dX12_tries_151 (by decide) (fun c_74 => ?_) (fun c_74 => ?_)
            · refine lv_aload_n hx hb dX12_tries_159 rfl (lv_at hl 1 rfl) ?_
              refine va_get (D := E.1) (ci := 12) (v := .ref (q 45)) (C := RX12) (T := TX12) (N := 59) hx hb hts inX12 hown hK hP 0 rfl rfl 45 (by decide) fl115 (fun _ h9 => h9) rfl dX12_tries_160 ?_
              refine lv_iload hx hb dX12_tries_163 (lv_at hl 8 rfl) ?_
              refine va_iald hx hb hK hP 7 0 rfl rfl hi_6 dX12_tries_165 ?_
              refine lv_topi (fun x_75 ex_75 => ?_)
              refine lv_istore (lv' := [(10, .int x_75), (9, .int x_72), (0, .ref h0), (1, .int (nI cr)), (2, .int (nI po)), (3, .int da), (4, .int (nI se_)), (5, .int (nI ro)), (6, .int co_), (8, .int (nI k))]) hx hb dX12_tries_166 hl (by decide) rfl (fun ls hl => ?_)
              refine lv_iload hx hb dX12_tries_168 (lv_at hl 0 rfl) ?_
              refine lv_aload_n hx hb dX12_tries_170 rfl (lv_at hl 2 rfl) ?_
              refine va_get (D := E.1) (ci := 12) (v := .ref (q 46)) (C := RX12) (T := TX12) (N := 59) hx hb hts inX12 hown hK hP 0 rfl rfl 46 (by decide) fl118 (fun _ h9 => h9) rfl dX12_tries_171 ?_
              refine lv_iload hx hb dX12_tries_174 (lv_at hl 9 rfl) ?_
              refine va_iald hx hb hK hP 8 0 rfl rfl hi_6 dX12_tries_176 ?_
              refine lv_topi (fun x_76 ex_76 => ?_)
              refine lv_icmp_le (tgt := 183) hx hb dX12_tries_177 (by decide) (fun c_77 => ?_) (fun c_77 => ?_)
              · refine lv_aload_n hx hb dX12_tries_183 rfl (lv_at hl 2 rfl) ?_
                refine lv_iload_n hx hb dX12_tries_184 rfl (lv_at hl 3 rfl) ?_
                refine lv_aload_n hx hb dX12_tries_185 rfl (lv_at hl 2 rfl) ?_
                refine va_get (D := E.1) (ci := 12) (v := .ref (q 43)) (C := RX12) (T := TX12) (N := 59) hx hb hts inX12 hown hK hP 0 rfl rfl 43 (by decide) fl109 (fun _ h9 => h9) rfl dX12_tries_186 ?_
                refine lv_iload hx hb dX12_tries_189 (lv_at hl 9 rfl) ?_
                refine va_iald hx hb hK hP 5 0 rfl rfl hi_6 dX12_tries_191 ?_
                refine lv_topi (fun x_78 ex_78 => ?_)
                have hv_79 : inR x_78 0 9 = true := by rw [ex_78]; exact hI_dTo _ (vin_cl hi_6)
                obtain ⟨w_80, hw_81, ew_82⟩ := inR_nI (n := 9) (by decide) hv_79
                subst ew_82
                refine lv_iload hx hb dX12_tries_192 (lv_at hl 0 rfl) ?_
                refine lv_aload_n hx hb dX12_tries_194 rfl (lv_at hl 2 rfl) ?_
                refine va_get (D := E.1) (ci := 12) (v := .ref (q 44)) (C := RX12) (T := TX12) (N := 59) hx hb hts inX12 hown hK hP 0 rfl rfl 44 (by decide) fl112 (fun _ h9 => h9) rfl dX12_tries_195 ?_
                refine lv_iload hx hb dX12_tries_198 (lv_at hl 9 rfl) ?_
                refine va_iald hx hb hK hP 6 0 rfl rfl hi_6 dX12_tries_200 ?_
                refine lv_topi (fun x_83 ex_83 => ?_)
                refine lv_iadd hx hb dX12_tries_201 ?_
                refine lv_topi (fun x_84 ex_84 => ?_)
                refine lv_iload hx hb dX12_tries_202 (lv_at hl 6 rfl) ?_
                refine lv_iconst (v := 1) hx hb dX12_tries_204 (by decide) ?_
                refine lv_iload hx hb dX12_tries_205 (lv_at hl 9 rfl) ?_
                refine lv_ishl hx hb dX12_tries_207 ?_
                refine lv_topi (fun x_85 ex_85 => ?_)
                refine lv_ior hx hb dX12_tries_208 ?_
                refine lv_topi (fun x_86 ex_86 => ?_)
                obtain ⟨w_87, hw_88, hw_88b, hw_88e⟩ : ∃ w, w < 128 ∧ bc7 w = 4 + 1 ∧ x_86 = nI w := by rw [ex_86, ex_85]; exact tr_bit hse hlt hbc (by rw [ex_3, ex_2] at c_4; exact c_4)
                subst hw_88e
                refine lv_bipush (v := 8) hx hb dX12_tries_209 (by decide) ?_
                refine lv_iload hx hb dX12_tries_211 (lv_at hl 7 rfl) ?_
                refine lv_imul hx hb dX12_tries_213 ?_
                refine lv_topi (fun x_89 ex_89 => ?_)
                obtain rfl : x_89 = nI (8 * ro) := ex_89.trans (pk_mul 8 ro)
                refine lv_iload hx hb dX12_tries_214 (lv_at hl 9 rfl) ?_
                refine lv_iadd hx hb dX12_tries_216 ?_
                refine lv_topi (fun x_90 ex_90 => ?_)
                obtain rfl : x_90 = nI ((8 * ro) + k) := ex_90.trans (nI_add (8 * ro) k)
                refine lv_iload hx hb dX12_tries_217 (lv_at hl 8 rfl) ?_
                refine lv_aload_n hx hb dX12_tries_219 rfl (lv_at hl 2 rfl) ?_
                refine va_get (D := E.1) (ci := 12) (v := .ref (q 49)) (C := RX12) (T := TX12) (N := 59) hx hb hts inX12 hown hK hP 0 rfl rfl 49 (by decide) fl127 (fun _ h9 => h9) rfl dX12_tries_220 ?_
                refine lv_bipush (v := 10) hx hb dX12_tries_223 (by decide) ?_
                refine lv_iload_n hx hb dX12_tries_225 rfl (lv_at hl 4 rfl) ?_
                refine lv_imul hx hb dX12_tries_226 ?_
                refine lv_topi (fun x_91 ex_91 => ?_)
                obtain rfl : x_91 = nI (10 * po) := ex_91.trans (pk_mul 10 po)
                refine lv_aload_n hx hb dX12_tries_227 rfl (lv_at hl 2 rfl) ?_
                refine va_get (D := E.1) (ci := 12) (v := .ref (q 42)) (C := RX12) (T := TX12) (N := 59) hx hb hts inX12 hown hK hP 0 rfl rfl 42 (by decide) fl106 (fun _ h9 => h9) rfl dX12_tries_228 ?_
                refine lv_iload hx hb dX12_tries_231 (lv_at hl 9 rfl) ?_
                refine va_iald hx hb hK hP 4 0 rfl rfl hi_6 dX12_tries_233 ?_
                refine lv_topi (fun x_92 ex_92 => ?_)
                obtain rfl : x_92 = nI w_9 := ex_92.trans ex_7.symm
                refine lv_iadd hx hb dX12_tries_234 ?_
                refine lv_topi (fun x_93 ex_93 => ?_)
                obtain rfl : x_93 = nI ((10 * po) + w_9) := ex_93.trans (nI_add (10 * po) w_9)
                refine va_iald hx hb hK hP 3 0 rfl rfl hi_13 dX12_tries_235 ?_
                refine lv_topi (fun x_94 ex_94 => ?_)
                refine lv_iadd hx hb dX12_tries_236 ?_
                refine lv_topi (fun x_95 ex_95 => ?_)
                have hPc := hP.sub (ws' := [(h0, .inr (12, mG q i_taped i_size i_sort i_what i_at i_end i_worth i_faultKind i_faultPlace i_got i_worked (nI dl) i_isPlanned i_bestDone i_bestCost)), (q 51, .inl (E.2.1 0, 512, .inl a_least)), (q 52, .inl (E.2.1 0, 512, .inl a_order)), (q 49, .inl (E.2.1 0, 100, .inl a_flights)), (q 42, .inl (E.2.1 0, 7, .inl a_dFrom)), (q 43, .inl (E.2.1 0, 7, .inl a_dTo)), (q 44, .inl (E.2.1 0, 7, .inl a_dDays)), (q 45, .inl (E.2.1 0, 7, .inl a_dFirst)), (q 46, .inl (E.2.1 0, 7, .inl a_dLast))]) [0, 1, 2, 3, 4, 5, 6, 7, 8] rfl
                have hDc := hD.sub (ws' := [(h0, .inr (12, mG q i_taped i_size i_sort i_what i_at i_end i_worth i_faultKind i_faultPlace i_got i_worked (nI dl) i_isPlanned i_bestDone i_bestCost)), (q 51, .inl (E.2.1 0, 512, .inl a_least)), (q 52, .inl (E.2.1 0, 512, .inl a_order)), (q 49, .inl (E.2.1 0, 100, .inl a_flights)), (q 42, .inl (E.2.1 0, 7, .inl a_dFrom)), (q 43, .inl (E.2.1 0, 7, .inl a_dTo)), (q 44, .inl (E.2.1 0, 7, .inl a_dDays)), (q 45, .inl (E.2.1 0, 7, .inl a_dFirst)), (q 46, .inl (E.2.1 0, 7, .inl a_dLast))]) [0, 1, 2, 3, 4, 5, 6, 7, 8] (by decide) rfl
                have hFc := va_free (wc := [(h0, .inr (12, mG q i_taped i_size i_sort i_what i_at i_end i_worth i_faultKind i_faultPlace i_got i_worked (nI dl) i_isPlanned i_bestDone i_bestCost)), (q 51, .inl (E.2.1 0, 512, .inl a_least)), (q 52, .inl (E.2.1 0, 512, .inl a_order)), (q 49, .inl (E.2.1 0, 100, .inl a_flights)), (q 42, .inl (E.2.1 0, 7, .inl a_dFrom)), (q 43, .inl (E.2.1 0, 7, .inl a_dTo)), (q 44, .inl (E.2.1 0, 7, .inl a_dDays)), (q 45, .inl (E.2.1 0, 7, .inl a_dFirst)), (q 46, .inl (E.2.1 0, 7, .inl a_dLast))]) hD hS hA [0, 1, 2, 3, 4, 5, 6, 7, 8] rfl
                refine va_callv (va_runV (As := [.int (nI cr), .int (nI w_80), .int x_84, .int (nI w_87), .int (nI ((8 * ro) + k)), .int x_95]) (rest := []) ⟨hx, hb, hml, hown, hts⟩ (c_X12_tries5 l E h0 q i_taped i_size i_sort i_what i_at i_end i_worth i_faultKind i_faultPlace i_got i_worked i_isPlanned i_bestDone i_bestCost dl cr w_80 w_87 ((8 * ro) + k) a_least a_order a_flights a_dFrom a_dTo a_dDays a_dFirst a_dLast x_84 x_95 H.size hcr (by omega) hw_88 hdl hw_88b (dg_step hro hlt) hI_order hI_dFrom hI_dTo) (cwV 6 hts gX12_tries_X12_tries rfl rfl rfl hdV_X12_tries ⟨Nat.le_of_ble_eq_true rfl, Nat.le_of_ble_eq_true rfl⟩) ⟨pcW_blind, va_recv hK hPc (ci := 12) (q0 := 0) rfl rfl, (pcW_pre hPc hkn hDc hst hS hFc)⟩ rfl rfl hl.1 rfl (lv_room (Nat.le_of_ble_eq_true rfl)) dX12_tries_237 ⟨Nat.le_of_ble_eq_true rfl, Nat.le_of_ble_eq_true rfl⟩) hS (fun q _ h => hFc q h) hFc (fun u t H1 locs ht hvm hw_97 hB hz1 hk1 hS => ?_)
                obtain ⟨u_98, u_99⟩ := u
                obtain ⟨hf_100, hP1, hD1⟩ := hB
                rw [ht] at hP1
                try dsimp only at hw_97
                obtain ⟨hP, hD⟩ := va_join (wr := []) (w1 := [(h0, .inr (12, mG q i_taped i_size i_sort i_what i_at i_end i_worth i_faultKind i_faultPlace i_got i_worked (nI dl) i_isPlanned i_bestDone i_bestCost)), (q 51, .inl (E.2.1 0, 512, .inl u_98)), (q 52, .inl (E.2.1 0, 512, .inl u_99)), (q 49, .inl (E.2.1 0, 100, .inl a_flights)), (q 42, .inl (E.2.1 0, 7, .inl a_dFrom)), (q 43, .inl (E.2.1 0, 7, .inl a_dTo)), (q 44, .inl (E.2.1 0, 7, .inl a_dDays)), (q 45, .inl (E.2.1 0, 7, .inl a_dFirst)), (q 46, .inl (E.2.1 0, 7, .inl a_dLast))]) hP hD [0, 1, 2, 3, 4, 5, 6, 7, 8] [] rfl rfl (by decide) (by decide) hk1 hFc hP1 hD1
                generalize H1 = H at hP hS ⊢
                have hP : va_P E.1 vwCl [(h0, .inr (12, mG q i_taped i_size i_sort i_what i_at i_end i_worth i_faultKind i_faultPlace i_got i_worked (nI dl) i_isPlanned i_bestDone i_bestCost)), (q 51, .inl (E.2.1 0, 512, .inl u_98)), (q 52, .inl (E.2.1 0, 512, .inl u_99)), (q 49, .inl (E.2.1 0, 100, .inl a_flights)), (q 42, .inl (E.2.1 0, 7, .inl a_dFrom)), (q 43, .inl (E.2.1 0, 7, .inl a_dTo)), (q 44, .inl (E.2.1 0, 7, .inl a_dDays)), (q 45, .inl (E.2.1 0, 7, .inl a_dFirst)), (q 46, .inl (E.2.1 0, 7, .inl a_dLast))] H := hP
                have hD : va_D A [(h0, .inr (12, mG q i_taped i_size i_sort i_what i_at i_end i_worth i_faultKind i_faultPlace i_got i_worked (nI dl) i_isPlanned i_bestDone i_bestCost)), (q 51, .inl (E.2.1 0, 512, .inl u_98)), (q 52, .inl (E.2.1 0, 512, .inl u_99)), (q 49, .inl (E.2.1 0, 100, .inl a_flights)), (q 42, .inl (E.2.1 0, 7, .inl a_dFrom)), (q 43, .inl (E.2.1 0, 7, .inl a_dTo)), (q 44, .inl (E.2.1 0, 7, .inl a_dDays)), (q 45, .inl (E.2.1 0, 7, .inl a_dFirst)), (q 46, .inl (E.2.1 0, 7, .inl a_dLast))] := hD
                refine lv_iinc (v := (nI (k + 1))) (lv' := [(8, .int (nI (k + 1))), (10, .int x_75), (9, .int x_72), (0, .ref h0), (1, .int (nI cr)), (2, .int (nI po)), (3, .int da), (4, .int (nI se_)), (5, .int (nI ro)), (6, .int co_)]) hx hb dX12_tries_240 hl (k := 9) rfl (show nI k + 1 = nI (k + 1) from nI_1 k) (by decide) rfl (fun ls hl => ?_)
                refine lv_goto (tgt := 78) hx hb dX12_tries_243 (by decide) ?_
                exact ih (k + 1) u_98 u_99 _ _ _ (by omega) (by omega) hf_100 (hP.sub [0, 1, 2, 3, 4, 5, 6, 7, 8] rfl) (hD.sub [0, 1, 2, 3, 4, 5, 6, 7, 8] (by decide) rfl) hS (lv_sub hl [3, 4, 5, 6, 7, 8, 9, 0] rfl)
              · refine lv_goto (tgt := 240) hx hb dX12_tries_180 (by decide) ?_
                refine lv_iinc (v := (nI (k + 1))) (lv' := [(8, .int (nI (k + 1))), (10, .int x_75), (9, .int x_72), (0, .ref h0), (1, .int (nI cr)), (2, .int (nI po)), (3, .int da), (4, .int (nI se_)), (5, .int (nI ro)), (6, .int co_)]) hx hb dX12_tries_240 hl (k := 9) rfl (show nI k + 1 = nI (k + 1) from nI_1 k) (by decide) rfl (fun ls hl => ?_)
                refine lv_goto (tgt := 78) hx hb dX12_tries_243 (by decide) ?_
                exact ih (k + 1) a_least a_order _ _ _ (by omega) (by omega) hI_order (hP.sub [0, 1, 2, 3, 4, 5, 6, 7, 8] rfl) (hD.sub [0, 1, 2, 3, 4, 5, 6, 7, 8] (by decide) rfl) hS (lv_sub hl [3, 4, 5, 6, 7, 8, 9, 0] rfl)
            · refine lv_iload hx hb dX12_tries_154 (lv_at hl 0 rfl) ?_
              refine lv_goto (tgt := 166) hx hb dX12_tries_156 (by decide) ?_
              refine lv_istore (lv' := [(10, .int x_72), (9, .int x_72), (0, .ref h0), (1, .int (nI cr)), (2, .int (nI po)), (3, .int da), (4, .int (nI se_)), (5, .int (nI ro)), (6, .int co_), (8, .int (nI k))]) hx hb dX12_tries_166 hl (by decide) rfl (fun ls hl => ?_)
              refine lv_iload hx hb dX12_tries_168 (lv_at hl 0 rfl) ?_
              refine lv_aload_n hx hb dX12_tries_170 rfl (lv_at hl 2 rfl) ?_
              refine va_get (D := E.1) (ci := 12) (v := .ref (q 46)) (C := RX12) (T := TX12) (N := 59) hx hb hts inX12 hown hK hP 0 rfl rfl 46 (by decide) fl118 (fun _ h9 => h9) rfl dX12_tries_171 ?_
              refine lv_iload hx hb dX12_tries_174 (lv_at hl 9 rfl) ?_
              refine va_iald hx hb hK hP 8 0 rfl rfl hi_6 dX12_tries_176 ?_
              refine lv_topi (fun x_101 ex_101 => ?_)
              refine lv_icmp_le (tgt := 183) hx hb dX12_tries_177 (by decide) (fun c_102 => ?_) (fun c_102 => ?_)
              · refine lv_aload_n hx hb dX12_tries_183 rfl (lv_at hl 2 rfl) ?_
                refine lv_iload_n hx hb dX12_tries_184 rfl (lv_at hl 3 rfl) ?_
                refine lv_aload_n hx hb dX12_tries_185 rfl (lv_at hl 2 rfl) ?_
                refine va_get (D := E.1) (ci := 12) (v := .ref (q 43)) (C := RX12) (T := TX12) (N := 59) hx hb hts inX12 hown hK hP 0 rfl rfl 43 (by decide) fl109 (fun _ h9 => h9) rfl dX12_tries_186 ?_
                refine lv_iload hx hb dX12_tries_189 (lv_at hl 9 rfl) ?_
                refine va_iald hx hb hK hP 5 0 rfl rfl hi_6 dX12_tries_191 ?_
                refine lv_topi (fun x_103 ex_103 => ?_)
                have hv_104 : inR x_103 0 9 = true := by rw [ex_103]; exact hI_dTo _ (vin_cl hi_6)
                obtain ⟨w_105, hw_106, ew_107⟩ := inR_nI (n := 9) (by decide) hv_104
                subst ew_107
                refine lv_iload hx hb dX12_tries_192 (lv_at hl 0 rfl) ?_
                refine lv_aload_n hx hb dX12_tries_194 rfl (lv_at hl 2 rfl) ?_
                refine va_get (D := E.1) (ci := 12) (v := .ref (q 44)) (C := RX12) (T := TX12) (N := 59) hx hb hts inX12 hown hK hP 0 rfl rfl 44 (by decide) fl112 (fun _ h9 => h9) rfl dX12_tries_195 ?_
                refine lv_iload hx hb dX12_tries_198 (lv_at hl 9 rfl) ?_
                refine va_iald hx hb hK hP 6 0 rfl rfl hi_6 dX12_tries_200 ?_
                refine lv_topi (fun x_108 ex_108 => ?_)
                refine lv_iadd hx hb dX12_tries_201 ?_
                refine lv_topi (fun x_109 ex_109 => ?_)
                refine lv_iload hx hb dX12_tries_202 (lv_at hl 6 rfl) ?_
                refine lv_iconst (v := 1) hx hb dX12_tries_204 (by decide) ?_
                refine lv_iload hx hb dX12_tries_205 (lv_at hl 9 rfl) ?_
                refine lv_ishl hx hb dX12_tries_207 ?_
                refine lv_topi (fun x_110 ex_110 => ?_)
                refine lv_ior hx hb dX12_tries_208 ?_
                refine lv_topi (fun x_111 ex_111 => ?_)
                obtain ⟨w_112, hw_113, hw_113b, hw_113e⟩ : ∃ w, w < 128 ∧ bc7 w = 4 + 1 ∧ x_111 = nI w := by rw [ex_111, ex_110]; exact tr_bit hse hlt hbc (by rw [ex_3, ex_2] at c_4; exact c_4)
                subst hw_113e
                refine lv_bipush (v := 8) hx hb dX12_tries_209 (by decide) ?_
                refine lv_iload hx hb dX12_tries_211 (lv_at hl 7 rfl) ?_
                refine lv_imul hx hb dX12_tries_213 ?_
                refine lv_topi (fun x_114 ex_114 => ?_)
                obtain rfl : x_114 = nI (8 * ro) := ex_114.trans (pk_mul 8 ro)
                refine lv_iload hx hb dX12_tries_214 (lv_at hl 9 rfl) ?_
                refine lv_iadd hx hb dX12_tries_216 ?_
                refine lv_topi (fun x_115 ex_115 => ?_)
                obtain rfl : x_115 = nI ((8 * ro) + k) := ex_115.trans (nI_add (8 * ro) k)
                refine lv_iload hx hb dX12_tries_217 (lv_at hl 8 rfl) ?_
                refine lv_aload_n hx hb dX12_tries_219 rfl (lv_at hl 2 rfl) ?_
                refine va_get (D := E.1) (ci := 12) (v := .ref (q 49)) (C := RX12) (T := TX12) (N := 59) hx hb hts inX12 hown hK hP 0 rfl rfl 49 (by decide) fl127 (fun _ h9 => h9) rfl dX12_tries_220 ?_
                refine lv_bipush (v := 10) hx hb dX12_tries_223 (by decide) ?_
                refine lv_iload_n hx hb dX12_tries_225 rfl (lv_at hl 4 rfl) ?_
                refine lv_imul hx hb dX12_tries_226 ?_
                refine lv_topi (fun x_116 ex_116 => ?_)
                obtain rfl : x_116 = nI (10 * po) := ex_116.trans (pk_mul 10 po)
                refine lv_aload_n hx hb dX12_tries_227 rfl (lv_at hl 2 rfl) ?_
                refine va_get (D := E.1) (ci := 12) (v := .ref (q 42)) (C := RX12) (T := TX12) (N := 59) hx hb hts inX12 hown hK hP 0 rfl rfl 42 (by decide) fl106 (fun _ h9 => h9) rfl dX12_tries_228 ?_
                refine lv_iload hx hb dX12_tries_231 (lv_at hl 9 rfl) ?_
                refine va_iald hx hb hK hP 4 0 rfl rfl hi_6 dX12_tries_233 ?_
                refine lv_topi (fun x_117 ex_117 => ?_)
                obtain rfl : x_117 = nI w_9 := ex_117.trans ex_7.symm
                refine lv_iadd hx hb dX12_tries_234 ?_
                refine lv_topi (fun x_118 ex_118 => ?_)
                obtain rfl : x_118 = nI ((10 * po) + w_9) := ex_118.trans (nI_add (10 * po) w_9)
                refine va_iald hx hb hK hP 3 0 rfl rfl hi_13 dX12_tries_235 ?_
                refine lv_topi (fun x_119 ex_119 => ?_)
                refine lv_iadd hx hb dX12_tries_236 ?_
                refine lv_topi (fun x_120 ex_120 => ?_)
                have hPc := hP.sub (ws' := [(h0, .inr (12, mG q i_taped i_size i_sort i_what i_at i_end i_worth i_faultKind i_faultPlace i_got i_worked (nI dl) i_isPlanned i_bestDone i_bestCost)), (q 51, .inl (E.2.1 0, 512, .inl a_least)), (q 52, .inl (E.2.1 0, 512, .inl a_order)), (q 49, .inl (E.2.1 0, 100, .inl a_flights)), (q 42, .inl (E.2.1 0, 7, .inl a_dFrom)), (q 43, .inl (E.2.1 0, 7, .inl a_dTo)), (q 44, .inl (E.2.1 0, 7, .inl a_dDays)), (q 45, .inl (E.2.1 0, 7, .inl a_dFirst)), (q 46, .inl (E.2.1 0, 7, .inl a_dLast))]) [0, 1, 2, 3, 4, 5, 6, 7, 8] rfl
                have hDc := hD.sub (ws' := [(h0, .inr (12, mG q i_taped i_size i_sort i_what i_at i_end i_worth i_faultKind i_faultPlace i_got i_worked (nI dl) i_isPlanned i_bestDone i_bestCost)), (q 51, .inl (E.2.1 0, 512, .inl a_least)), (q 52, .inl (E.2.1 0, 512, .inl a_order)), (q 49, .inl (E.2.1 0, 100, .inl a_flights)), (q 42, .inl (E.2.1 0, 7, .inl a_dFrom)), (q 43, .inl (E.2.1 0, 7, .inl a_dTo)), (q 44, .inl (E.2.1 0, 7, .inl a_dDays)), (q 45, .inl (E.2.1 0, 7, .inl a_dFirst)), (q 46, .inl (E.2.1 0, 7, .inl a_dLast))]) [0, 1, 2, 3, 4, 5, 6, 7, 8] (by decide) rfl
                have hFc := va_free (wc := [(h0, .inr (12, mG q i_taped i_size i_sort i_what i_at i_end i_worth i_faultKind i_faultPlace i_got i_worked (nI dl) i_isPlanned i_bestDone i_bestCost)), (q 51, .inl (E.2.1 0, 512, .inl a_least)), (q 52, .inl (E.2.1 0, 512, .inl a_order)), (q 49, .inl (E.2.1 0, 100, .inl a_flights)), (q 42, .inl (E.2.1 0, 7, .inl a_dFrom)), (q 43, .inl (E.2.1 0, 7, .inl a_dTo)), (q 44, .inl (E.2.1 0, 7, .inl a_dDays)), (q 45, .inl (E.2.1 0, 7, .inl a_dFirst)), (q 46, .inl (E.2.1 0, 7, .inl a_dLast))]) hD hS hA [0, 1, 2, 3, 4, 5, 6, 7, 8] rfl
                refine va_callv (va_runV (As := [.int (nI cr), .int (nI w_105), .int x_109, .int (nI w_112), .int (nI ((8 * ro) + k)), .int x_120]) (rest := []) ⟨hx, hb, hml, hown, hts⟩ (c_X12_tries5 l E h0 q i_taped i_size i_sort i_what i_at i_end i_worth i_faultKind i_faultPlace i_got i_worked i_isPlanned i_bestDone i_bestCost dl cr w_105 w_112 ((8 * ro) + k) a_least a_order a_flights a_dFrom a_dTo a_dDays a_dFirst a_dLast x_109 x_120 H.size hcr (by omega) hw_113 hdl hw_113b (dg_step hro hlt) hI_order hI_dFrom hI_dTo) (cwV 6 hts gX12_tries_X12_tries rfl rfl rfl hdV_X12_tries ⟨Nat.le_of_ble_eq_true rfl, Nat.le_of_ble_eq_true rfl⟩) ⟨pcW_blind, va_recv hK hPc (ci := 12) (q0 := 0) rfl rfl, (pcW_pre hPc hkn hDc hst hS hFc)⟩ rfl rfl hl.1 rfl (lv_room (Nat.le_of_ble_eq_true rfl)) dX12_tries_237 ⟨Nat.le_of_ble_eq_true rfl, Nat.le_of_ble_eq_true rfl⟩) hS (fun q _ h => hFc q h) hFc (fun u t H1 locs ht hvm hw_122 hB hz1 hk1 hS => ?_)
                obtain ⟨u_123, u_124⟩ := u
                obtain ⟨hf_125, hP1, hD1⟩ := hB
                rw [ht] at hP1
                try dsimp only at hw_122
                obtain ⟨hP, hD⟩ := va_join (wr := []) (w1 := [(h0, .inr (12, mG q i_taped i_size i_sort i_what i_at i_end i_worth i_faultKind i_faultPlace i_got i_worked (nI dl) i_isPlanned i_bestDone i_bestCost)), (q 51, .inl (E.2.1 0, 512, .inl u_123)), (q 52, .inl (E.2.1 0, 512, .inl u_124)), (q 49, .inl (E.2.1 0, 100, .inl a_flights)), (q 42, .inl (E.2.1 0, 7, .inl a_dFrom)), (q 43, .inl (E.2.1 0, 7, .inl a_dTo)), (q 44, .inl (E.2.1 0, 7, .inl a_dDays)), (q 45, .inl (E.2.1 0, 7, .inl a_dFirst)), (q 46, .inl (E.2.1 0, 7, .inl a_dLast))]) hP hD [0, 1, 2, 3, 4, 5, 6, 7, 8] [] rfl rfl (by decide) (by decide) hk1 hFc hP1 hD1
                generalize H1 = H at hP hS ⊢
                have hP : va_P E.1 vwCl [(h0, .inr (12, mG q i_taped i_size i_sort i_what i_at i_end i_worth i_faultKind i_faultPlace i_got i_worked (nI dl) i_isPlanned i_bestDone i_bestCost)), (q 51, .inl (E.2.1 0, 512, .inl u_123)), (q 52, .inl (E.2.1 0, 512, .inl u_124)), (q 49, .inl (E.2.1 0, 100, .inl a_flights)), (q 42, .inl (E.2.1 0, 7, .inl a_dFrom)), (q 43, .inl (E.2.1 0, 7, .inl a_dTo)), (q 44, .inl (E.2.1 0, 7, .inl a_dDays)), (q 45, .inl (E.2.1 0, 7, .inl a_dFirst)), (q 46, .inl (E.2.1 0, 7, .inl a_dLast))] H := hP
                have hD : va_D A [(h0, .inr (12, mG q i_taped i_size i_sort i_what i_at i_end i_worth i_faultKind i_faultPlace i_got i_worked (nI dl) i_isPlanned i_bestDone i_bestCost)), (q 51, .inl (E.2.1 0, 512, .inl u_123)), (q 52, .inl (E.2.1 0, 512, .inl u_124)), (q 49, .inl (E.2.1 0, 100, .inl a_flights)), (q 42, .inl (E.2.1 0, 7, .inl a_dFrom)), (q 43, .inl (E.2.1 0, 7, .inl a_dTo)), (q 44, .inl (E.2.1 0, 7, .inl a_dDays)), (q 45, .inl (E.2.1 0, 7, .inl a_dFirst)), (q 46, .inl (E.2.1 0, 7, .inl a_dLast))] := hD
                refine lv_iinc (v := (nI (k + 1))) (lv' := [(8, .int (nI (k + 1))), (10, .int x_72), (9, .int x_72), (0, .ref h0), (1, .int (nI cr)), (2, .int (nI po)), (3, .int da), (4, .int (nI se_)), (5, .int (nI ro)), (6, .int co_)]) hx hb dX12_tries_240 hl (k := 9) rfl (show nI k + 1 = nI (k + 1) from nI_1 k) (by decide) rfl (fun ls hl => ?_)
                refine lv_goto (tgt := 78) hx hb dX12_tries_243 (by decide) ?_
                exact ih (k + 1) u_123 u_124 _ _ _ (by omega) (by omega) hf_125 (hP.sub [0, 1, 2, 3, 4, 5, 6, 7, 8] rfl) (hD.sub [0, 1, 2, 3, 4, 5, 6, 7, 8] (by decide) rfl) hS (lv_sub hl [3, 4, 5, 6, 7, 8, 9, 0] rfl)
              · refine lv_goto (tgt := 240) hx hb dX12_tries_180 (by decide) ?_
                refine lv_iinc (v := (nI (k + 1))) (lv' := [(8, .int (nI (k + 1))), (10, .int x_72), (9, .int x_72), (0, .ref h0), (1, .int (nI cr)), (2, .int (nI po)), (3, .int da), (4, .int (nI se_)), (5, .int (nI ro)), (6, .int co_)]) hx hb dX12_tries_240 hl (k := 9) rfl (show nI k + 1 = nI (k + 1) from nI_1 k) (by decide) rfl (fun ls hl => ?_)
                refine lv_goto (tgt := 78) hx hb dX12_tries_243 (by decide) ?_
                exact ih (k + 1) a_least a_order _ _ _ (by omega) (by omega) hI_order (hP.sub [0, 1, 2, 3, 4, 5, 6, 7, 8] rfl) (hD.sub [0, 1, 2, 3, 4, 5, 6, 7, 8] (by decide) rfl) hS (lv_sub hl [3, 4, 5, 6, 7, 8, 9, 0] rfl)
        · refine lv_goto (tgt := 240) hx hb dX12_tries_119 (by decide) ?_
          refine lv_iinc (v := (nI (k + 1))) (lv' := [(8, .int (nI (k + 1))), (0, .ref h0), (1, .int (nI cr)), (2, .int (nI po)), (3, .int da), (4, .int (nI se_)), (5, .int (nI ro)), (6, .int co_)]) hx hb dX12_tries_240 hl (k := 7) rfl (show nI k + 1 = nI (k + 1) from nI_1 k) (by decide) rfl (fun ls hl => ?_)
          refine lv_goto (tgt := 78) hx hb dX12_tries_243 (by decide) ?_
          exact ih (k + 1) a_least a_order _ _ _ (by omega) (by omega) hI_order (hP.sub [0, 1, 2, 3, 4, 5, 6, 7, 8] rfl) (hD.sub [0, 1, 2, 3, 4, 5, 6, 7, 8] (by decide) rfl) hS (lv_sub hl [1, 2, 3, 4, 5, 6, 7, 0] rfl)
set_option maxHeartbeats 4000000 in
set_option maxRecDepth 100000 in
theorem c_X12_tries4 (l : Launch) (E : vE) (h0 : Nat) (q : Nat → Nat) (i_taped : Int32) (i_size : Int32) (i_sort : Int32) (i_what : Int32) (i_at : Int32) (i_end : Int32) (i_worth : Int32) (i_faultKind : Int32) (i_faultPlace : Int32) (i_got : Int32) (i_worked : Int32) (i_isPlanned : Int32) (i_bestDone : Int32) (i_bestCost : Int32) (dl : Nat) (cr : Nat) (po : Nat) (se_ : Nat) (ro : Nat) (a_least : Nat → Int32) (a_order : Nat → Int32) (a_flights : Nat → Int32) (a_dFrom : Nat → Int32) (a_dTo : Nat → Int32) (a_dDays : Nat → Int32) (a_dFirst : Nat → Int32) (a_dLast : Nat → Int32) (da : Int32) (co_ : Int32) (sz : Nat) (hcr : cr < 4) (hpo : po ≤ 9) (hse : se_ < 128) (hdl : dl ≤ 7) (hbc : bc7 se_ = 4) (hro : dg ro 4) (hI_order : ∀ k : Nat, k < 512 → digOK (a_order k)) (hI_dFrom : ∀ k : Nat, k < 7 → inR (a_dFrom k) 0 9 = true) (hI_dTo : ∀ k : Nat, k < 7 → inR (a_dTo k) 0 9 = true) : Met l yX12_tries wsX12_tries ({ frames := 3, cells := 0, slots := 0, locals := 90 }) (pcW E [.ref h0, .int (nI cr), .int (nI po), .int da, .int (nI se_), .int (nI ro), .int co_] sz [(h0, .inr (12, mG q i_taped i_size i_sort i_what i_at i_end i_worth i_faultKind i_faultPlace i_got i_worked (nI dl) i_isPlanned i_bestDone i_bestCost)), (q 51, .inl (E.2.1 0, 512, .inl a_least)), (q 52, .inl (E.2.1 0, 512, .inl a_order)), (q 49, .inl (E.2.1 0, 100, .inl a_flights)), (q 42, .inl (E.2.1 0, 7, .inl a_dFrom)), (q 43, .inl (E.2.1 0, 7, .inl a_dTo)), (q 44, .inl (E.2.1 0, 7, .inl a_dDays)), (q 45, .inl (E.2.1 0, 7, .inl a_dFirst)), (q 46, .inl (E.2.1 0, 7, .inl a_dLast))]) (va_Qv (fun (u : (Nat → Int32) × (Nat → Int32)) => match u with | (b_least, b_order) => True) (fun (u : (Nat → Int32) × (Nat → Int32)) (t : State) => match u with | (b_least, b_order) => (∀ k : Nat, k < 512 → digOK (b_order k)) ∧ wB E (va_A [(h0, .inr (12, mG q i_taped i_size i_sort i_what i_at i_end i_worth i_faultKind i_faultPlace i_got i_worked (nI dl) i_isPlanned i_bestDone i_bestCost)), (q 51, .inl (E.2.1 0, 512, .inl a_least)), (q 52, .inl (E.2.1 0, 512, .inl a_order)), (q 49, .inl (E.2.1 0, 100, .inl a_flights)), (q 42, .inl (E.2.1 0, 7, .inl a_dFrom)), (q 43, .inl (E.2.1 0, 7, .inl a_dTo)), (q 44, .inl (E.2.1 0, 7, .inl a_dDays)), (q 45, .inl (E.2.1 0, 7, .inl a_dFirst)), (q 46, .inl (E.2.1 0, 7, .inl a_dLast))] sz) [(h0, .inr (12, mG q i_taped i_size i_sort i_what i_at i_end i_worth i_faultKind i_faultPlace i_got i_worked (nI dl) i_isPlanned i_bestDone i_bestCost)), (q 51, .inl (E.2.1 0, 512, .inl b_least)), (q 52, .inl (E.2.1 0, 512, .inl b_order)), (q 49, .inl (E.2.1 0, 100, .inl a_flights)), (q 42, .inl (E.2.1 0, 7, .inl a_dFrom)), (q 43, .inl (E.2.1 0, 7, .inl a_dTo)), (q 44, .inl (E.2.1 0, 7, .inl a_dDays)), (q 45, .inl (E.2.1 0, 7, .inl a_dFirst)), (q 46, .inl (E.2.1 0, 7, .inl a_dLast))] t) (va_A [(h0, .inr (12, mG q i_taped i_size i_sort i_what i_at i_end i_worth i_faultKind i_faultPlace i_got i_worked (nI dl) i_isPlanned i_bestDone i_bestCost)), (q 51, .inl (E.2.1 0, 512, .inl a_least)), (q 52, .inl (E.2.1 0, 512, .inl a_order)), (q 49, .inl (E.2.1 0, 100, .inl a_flights)), (q 42, .inl (E.2.1 0, 7, .inl a_dFrom)), (q 43, .inl (E.2.1 0, 7, .inl a_dTo)), (q 44, .inl (E.2.1 0, 7, .inl a_dDays)), (q 45, .inl (E.2.1 0, 7, .inl a_dFirst)), (q 46, .inl (E.2.1 0, 7, .inl a_dLast))] sz)) 0 0 (va_A [(h0, .inr (12, mG q i_taped i_size i_sort i_what i_at i_end i_worth i_faultKind i_faultPlace i_got i_worked (nI dl) i_isPlanned i_bestDone i_bestCost)), (q 51, .inl (E.2.1 0, 512, .inl a_least)), (q 52, .inl (E.2.1 0, 512, .inl a_order)), (q 49, .inl (E.2.1 0, 100, .inl a_flights)), (q 42, .inl (E.2.1 0, 7, .inl a_dFrom)), (q 43, .inl (E.2.1 0, 7, .inl a_dTo)), (q 44, .inl (E.2.1 0, 7, .inl a_dDays)), (q 45, .inl (E.2.1 0, 7, .inl a_dFirst)), (q 46, .inl (E.2.1 0, 7, .inl a_dLast))] sz) := by
  refine Met.ofW (cc := cX12_tries) (maxL := 11) (ret := none) (by decide) rfl ?_
  intro p e s m args below meth c s₁ B hml hv
  obtain ⟨rfl, hsz, hP, hkn, hD0, hst⟩ := hv
  have hx := B.exec
  have hb := B.bytes
  have hr := B.returns
  have hts := atoms_spec (ws := wsX12_tries) B.pre
  have hown : s.vm.findClass RX12 = some m.cls := findClass_of_methodNamed B.named
  have hlocks := B.notSynchronized
  subst hsz
  have hD := hD0.self (sz := s.heap.size)
  have hK := hkn.1
  have hAO := hkn.2.2.1
  generalize hAe : va_A [(h0, .inr (12, mG q i_taped i_size i_sort i_what i_at i_end i_worth i_faultKind i_faultPlace i_got i_worked (nI dl) i_isPlanned i_bestDone i_bestCost)), (q 51, .inl (E.2.1 0, 512, .inl a_least)), (q 52, .inl (E.2.1 0, 512, .inl a_order)), (q 49, .inl (E.2.1 0, 100, .inl a_flights)), (q 42, .inl (E.2.1 0, 7, .inl a_dFrom)), (q 43, .inl (E.2.1 0, 7, .inl a_dTo)), (q 44, .inl (E.2.1 0, 7, .inl a_dDays)), (q 45, .inl (E.2.1 0, 7, .inl a_dFirst)), (q 46, .inl (E.2.1 0, 7, .inl a_dLast))] s.heap.size = A at hD hst ⊢
  have hA : ∀ q : Nat, s.heap.size ≤ q → A q := fun q h => by rw [← hAe]; exact Or.inr h
  have hS : va_S A s.heap s.heap [] := va_S.rf
  have hP : va_P E.1 vwCl [(h0, .inr (12, mG q i_taped i_size i_sort i_what i_at i_end i_worth i_faultKind i_faultPlace i_got i_worked (nI dl) i_isPlanned i_bestDone i_bestCost)), (q 51, .inl (E.2.1 0, 512, .inl a_least)), (q 52, .inl (E.2.1 0, 512, .inl a_order)), (q 49, .inl (E.2.1 0, 100, .inl a_flights)), (q 42, .inl (E.2.1 0, 7, .inl a_dFrom)), (q 43, .inl (E.2.1 0, 7, .inl a_dTo)), (q 44, .inl (E.2.1 0, 7, .inl a_dDays)), (q 45, .inl (E.2.1 0, 7, .inl a_dFirst)), (q 46, .inl (E.2.1 0, 7, .inl a_dLast))] s.heap := hP
  have hl := lv_entry ([.ref h0, .int (nI cr), .int (nI po), .int da, .int (nI se_), .int (nI ro), .int co_]) (n := 11) (Nat.le_of_ble_eq_true rfl)
  rw [lg_entry_eq]
  generalize (lg_sl ([.ref h0, .int (nI cr), .int (nI po), .int da, .int (nI se_), .int (nI ro), .int co_]) ++ List.replicate (11 - (lg_sl ([.ref h0, .int (nI cr), .int (nI po), .int da, .int (nI se_), .int (nI ro), .int co_])).length) Slot.unset).toArray = ls at hl ⊢
  have hl : lv_has ls 11 [(0, .ref h0), (1, .int (nI cr)), (2, .int (nI po)), (3, .int da), (4, .int (nI se_)), (5, .int (nI ro)), (6, .int co_)] := hl
  have fl106 := hts (.fieldLink RX12 106 "BoatsHomeModel" "dFrom" "[I") (by first | exact List.mem_of_getElem? (i := 5) rfl | decide +kernel)
  have fl109 := hts (.fieldLink RX12 109 "BoatsHomeModel" "dTo" "[I") (by first | exact List.mem_of_getElem? (i := 8) rfl | decide +kernel)
  have fl112 := hts (.fieldLink RX12 112 "BoatsHomeModel" "dDays" "[I") (by first | exact List.mem_of_getElem? (i := 9) rfl | decide +kernel)
  have fl115 := hts (.fieldLink RX12 115 "BoatsHomeModel" "dFirst" "[I") (by first | exact List.mem_of_getElem? (i := 6) rfl | decide +kernel)
  have fl118 := hts (.fieldLink RX12 118 "BoatsHomeModel" "dLast" "[I") (by first | exact List.mem_of_getElem? (i := 7) rfl | decide +kernel)
  have fl127 := hts (.fieldLink RX12 127 "BoatsHomeModel" "flights" "[I") (by first | exact List.mem_of_getElem? (i := 4) rfl | decide +kernel)
  have fl130 := hts (.fieldLink RX12 130 "BoatsHomeModel" "least" "[I") (by first | exact List.mem_of_getElem? (i := 1) rfl | decide +kernel)
  have fl133 := hts (.fieldLink RX12 133 "BoatsHomeModel" "order" "[I") (by first | exact List.mem_of_getElem? (i := 2) rfl | decide +kernel)
  have fl289 := hts (.fieldLink RX12 289 "BoatsHomeModel" "deliveries" "I") (by first | exact List.mem_of_getElem? (i := 3) rfl | decide +kernel)
  have inX12 : ∀ w ∈ u_ws RX12 TX12 59, w ∈ wsX12_tries := by first | exact fun w h9 => (List.mem_cons_of_mem _ (List.mem_append_right _ h9)) | decide +kernel
  refine lv_sipush (v := 128) hx hb dX12_tries_0 (by decide) ?_
  refine lv_iload_n hx hb dX12_tries_3 rfl (lv_at hl 1 rfl) ?_
  refine lv_imul hx hb dX12_tries_4 ?_
  refine lv_topi (fun x_1 ex_1 => ?_)
  obtain rfl : x_1 = nI (128 * cr) := ex_1.trans (pk_mul 128 cr)
  refine lv_iload hx hb dX12_tries_5 (lv_at hl 4 rfl) ?_
  refine lv_iadd hx hb dX12_tries_7 ?_
  refine lv_topi (fun x_2 ex_2 => ?_)
  obtain rfl : x_2 = nI ((128 * cr) + se_) := ex_2.trans (nI_add (128 * cr) se_)
  refine lv_istore (lv' := [(7, .int (nI ((128 * cr) + se_))), (0, .ref h0), (1, .int (nI cr)), (2, .int (nI po)), (3, .int da), (4, .int (nI se_)), (5, .int (nI ro)), (6, .int co_)]) hx hb dX12_tries_8 hl (by decide) rfl (fun ls hl => ?_)
  refine lv_aload_n hx hb dX12_tries_10 rfl (lv_at hl 1 rfl) ?_
  refine va_get (D := E.1) (ci := 12) (v := .ref (q 51)) (C := RX12) (T := TX12) (N := 59) hx hb hts inX12 hown hK hP 0 rfl rfl 51 (by decide) fl130 (fun _ h9 => h9) rfl dX12_tries_11 ?_
  refine lv_iload hx hb dX12_tries_14 (lv_at hl 0 rfl) ?_
  have hi_3 : vp_in (nI ((128 * cr) + se_)) 512 := vp_in_nI (by omega) (by decide)
  refine va_iald hx hb hK hP 1 0 rfl rfl hi_3 dX12_tries_16 ?_
  refine lv_topi (fun x_4 ex_4 => ?_)
  refine lv_iconst (v := (-1)) hx hb dX12_tries_17 (by decide) ?_
  refine lv_icmp_eq (tgt := 57) hx hb dX12_tries_18 (by decide) (fun c_5 => ?_) (fun c_5 => ?_)
  · refine lv_aload_n hx hb dX12_tries_57 rfl (lv_at hl 1 rfl) ?_
    refine va_get (D := E.1) (ci := 12) (v := .ref (q 51)) (C := RX12) (T := TX12) (N := 59) hx hb hts inX12 hown hK hP 0 rfl rfl 51 (by decide) fl130 (fun _ h9 => h9) rfl dX12_tries_58 ?_
    refine lv_iload hx hb dX12_tries_61 (lv_at hl 0 rfl) ?_
    refine lv_iload hx hb dX12_tries_63 (lv_at hl 7 rfl) ?_
    refine va_iast hx hb hK hP hD hS 1 0 rfl rfl hi_3 dX12_tries_65 (fun H locs hP hD hS => ?_)
    have hP : va_P E.1 vwCl [(h0, .inr (12, mG q i_taped i_size i_sort i_what i_at i_end i_worth i_faultKind i_faultPlace i_got i_worked (nI dl) i_isPlanned i_bestDone i_bestCost)), (q 51, .inl (E.2.1 0, 512, .inl (upd a_least (nI ((128 * cr) + se_)).toNatClampNeg co_))), (q 52, .inl (E.2.1 0, 512, .inl a_order)), (q 49, .inl (E.2.1 0, 100, .inl a_flights)), (q 42, .inl (E.2.1 0, 7, .inl a_dFrom)), (q 43, .inl (E.2.1 0, 7, .inl a_dTo)), (q 44, .inl (E.2.1 0, 7, .inl a_dDays)), (q 45, .inl (E.2.1 0, 7, .inl a_dFirst)), (q 46, .inl (E.2.1 0, 7, .inl a_dLast))] H := hP
    have hD : va_D A [(h0, .inr (12, mG q i_taped i_size i_sort i_what i_at i_end i_worth i_faultKind i_faultPlace i_got i_worked (nI dl) i_isPlanned i_bestDone i_bestCost)), (q 51, .inl (E.2.1 0, 512, .inl (upd a_least (nI ((128 * cr) + se_)).toNatClampNeg co_))), (q 52, .inl (E.2.1 0, 512, .inl a_order)), (q 49, .inl (E.2.1 0, 100, .inl a_flights)), (q 42, .inl (E.2.1 0, 7, .inl a_dFrom)), (q 43, .inl (E.2.1 0, 7, .inl a_dTo)), (q 44, .inl (E.2.1 0, 7, .inl a_dDays)), (q 45, .inl (E.2.1 0, 7, .inl a_dFirst)), (q 46, .inl (E.2.1 0, 7, .inl a_dLast))] := hD
    obtain ⟨f_6, ef_6⟩ : ∃ g : Nat → Int32, g = upd a_least (nI ((128 * cr) + se_)).toNatClampNeg co_ := ⟨_, rfl⟩
    rw [← ef_6] at hP hD
    refine lv_aload_n hx hb dX12_tries_66 rfl (lv_at hl 1 rfl) ?_
    refine va_get (D := E.1) (ci := 12) (v := .ref (q 52)) (C := RX12) (T := TX12) (N := 59) hx hb hts inX12 hown hK hP 0 rfl rfl 52 (by decide) fl133 (fun _ h9 => h9) rfl dX12_tries_67 ?_
    refine lv_iload hx hb dX12_tries_70 (lv_at hl 0 rfl) ?_
    refine lv_iload hx hb dX12_tries_72 (lv_at hl 6 rfl) ?_
    refine va_iast hx hb hK hP hD hS 2 0 rfl rfl hi_3 dX12_tries_74 (fun H locs hP hD hS => ?_)
    have hP : va_P E.1 vwCl [(h0, .inr (12, mG q i_taped i_size i_sort i_what i_at i_end i_worth i_faultKind i_faultPlace i_got i_worked (nI dl) i_isPlanned i_bestDone i_bestCost)), (q 51, .inl (E.2.1 0, 512, .inl f_6)), (q 52, .inl (E.2.1 0, 512, .inl (upd a_order (nI ((128 * cr) + se_)).toNatClampNeg (nI ro)))), (q 49, .inl (E.2.1 0, 100, .inl a_flights)), (q 42, .inl (E.2.1 0, 7, .inl a_dFrom)), (q 43, .inl (E.2.1 0, 7, .inl a_dTo)), (q 44, .inl (E.2.1 0, 7, .inl a_dDays)), (q 45, .inl (E.2.1 0, 7, .inl a_dFirst)), (q 46, .inl (E.2.1 0, 7, .inl a_dLast))] H := hP
    have hD : va_D A [(h0, .inr (12, mG q i_taped i_size i_sort i_what i_at i_end i_worth i_faultKind i_faultPlace i_got i_worked (nI dl) i_isPlanned i_bestDone i_bestCost)), (q 51, .inl (E.2.1 0, 512, .inl f_6)), (q 52, .inl (E.2.1 0, 512, .inl (upd a_order (nI ((128 * cr) + se_)).toNatClampNeg (nI ro)))), (q 49, .inl (E.2.1 0, 100, .inl a_flights)), (q 42, .inl (E.2.1 0, 7, .inl a_dFrom)), (q 43, .inl (E.2.1 0, 7, .inl a_dTo)), (q 44, .inl (E.2.1 0, 7, .inl a_dDays)), (q 45, .inl (E.2.1 0, 7, .inl a_dFirst)), (q 46, .inl (E.2.1 0, 7, .inl a_dLast))] := hD
    obtain ⟨f_7, ef_7⟩ : ∃ g : Nat → Int32, g = upd a_order (nI ((128 * cr) + se_)).toNatClampNeg (nI ro) := ⟨_, rfl⟩
    rw [← ef_7] at hP hD
    have hI_8 : ∀ k : Nat, k < 512 → digOK (f_7 k) := by rw [ef_7]; exact all_upd (P := fun z => digOK z) hI_order (dg_OK hro (by decide))
    refine lv_iconst (v := 0) hx hb dX12_tries_75 (by decide) ?_
    refine lv_istore (lv' := [(8, .int 0), (7, .int (nI ((128 * cr) + se_))), (0, .ref h0), (1, .int (nI cr)), (2, .int (nI po)), (3, .int da), (4, .int (nI se_)), (5, .int (nI ro)), (6, .int co_)]) hx hb dX12_tries_76 hl (by decide) rfl (fun ls hl => ?_)
    have hPl := hP.sub (ws' := [(h0, .inr (12, mG q i_taped i_size i_sort i_what i_at i_end i_worth i_faultKind i_faultPlace i_got i_worked (nI dl) i_isPlanned i_bestDone i_bestCost)), (q 51, .inl (E.2.1 0, 512, .inl f_6)), (q 52, .inl (E.2.1 0, 512, .inl f_7)), (q 49, .inl (E.2.1 0, 100, .inl a_flights)), (q 42, .inl (E.2.1 0, 7, .inl a_dFrom)), (q 43, .inl (E.2.1 0, 7, .inl a_dTo)), (q 44, .inl (E.2.1 0, 7, .inl a_dDays)), (q 45, .inl (E.2.1 0, 7, .inl a_dFirst)), (q 46, .inl (E.2.1 0, 7, .inl a_dLast))]) [0, 1, 2, 3, 4, 5, 6, 7, 8] rfl
    have hDl := hD.sub (ws' := [(h0, .inr (12, mG q i_taped i_size i_sort i_what i_at i_end i_worth i_faultKind i_faultPlace i_got i_worked (nI dl) i_isPlanned i_bestDone i_bestCost)), (q 51, .inl (E.2.1 0, 512, .inl f_6)), (q 52, .inl (E.2.1 0, 512, .inl f_7)), (q 49, .inl (E.2.1 0, 100, .inl a_flights)), (q 42, .inl (E.2.1 0, 7, .inl a_dFrom)), (q 43, .inl (E.2.1 0, 7, .inl a_dTo)), (q 44, .inl (E.2.1 0, 7, .inl a_dDays)), (q 45, .inl (E.2.1 0, 7, .inl a_dFirst)), (q 46, .inl (E.2.1 0, 7, .inl a_dLast))]) [0, 1, 2, 3, 4, 5, 6, 7, 8] (by decide) rfl
    refine lm_tries4 E h0 q i_taped i_size i_sort i_what i_at i_end i_worth i_faultKind i_faultPlace i_got i_worked i_isPlanned i_bestDone i_bestCost dl cr po se_ ro da co_ a_flights a_dFrom a_dTo a_dDays a_dFirst a_dLast hx hb hml hown hts hkn hst hA (by omega) (by omega) (by omega) (by omega) hbc hro hI_dFrom hI_dTo (fun n_9 n_10 H locs ls hI_order hP hD hS hl => ?_) 9 0 f_6 f_7 _ _ _ (by omega) (by omega) hI_8 hPl hDl hS (lv_sub hl [2, 3, 4, 5, 6, 7, 8, 0] rfl)
    have hP : va_P E.1 vwCl [(h0, .inr (12, mG q i_taped i_size i_sort i_what i_at i_end i_worth i_faultKind i_faultPlace i_got i_worked (nI dl) i_isPlanned i_bestDone i_bestCost)), (q 51, .inl (E.2.1 0, 512, .inl n_9)), (q 52, .inl (E.2.1 0, 512, .inl n_10)), (q 49, .inl (E.2.1 0, 100, .inl a_flights)), (q 42, .inl (E.2.1 0, 7, .inl a_dFrom)), (q 43, .inl (E.2.1 0, 7, .inl a_dTo)), (q 44, .inl (E.2.1 0, 7, .inl a_dDays)), (q 45, .inl (E.2.1 0, 7, .inl a_dFirst)), (q 46, .inl (E.2.1 0, 7, .inl a_dLast))] H := hP
    have hD : va_D A [(h0, .inr (12, mG q i_taped i_size i_sort i_what i_at i_end i_worth i_faultKind i_faultPlace i_got i_worked (nI dl) i_isPlanned i_bestDone i_bestCost)), (q 51, .inl (E.2.1 0, 512, .inl n_9)), (q 52, .inl (E.2.1 0, 512, .inl n_10)), (q 49, .inl (E.2.1 0, 100, .inl a_flights)), (q 42, .inl (E.2.1 0, 7, .inl a_dFrom)), (q 43, .inl (E.2.1 0, 7, .inl a_dTo)), (q 44, .inl (E.2.1 0, 7, .inl a_dDays)), (q 45, .inl (E.2.1 0, 7, .inl a_dFirst)), (q 46, .inl (E.2.1 0, 7, .inl a_dLast))] := hD
    have hP9 := hP.sub (ws' := [(h0, .inr (12, mG q i_taped i_size i_sort i_what i_at i_end i_worth i_faultKind i_faultPlace i_got i_worked (nI dl) i_isPlanned i_bestDone i_bestCost)), (q 51, .inl (E.2.1 0, 512, .inl n_9)), (q 52, .inl (E.2.1 0, 512, .inl n_10)), (q 49, .inl (E.2.1 0, 100, .inl a_flights)), (q 42, .inl (E.2.1 0, 7, .inl a_dFrom)), (q 43, .inl (E.2.1 0, 7, .inl a_dTo)), (q 44, .inl (E.2.1 0, 7, .inl a_dDays)), (q 45, .inl (E.2.1 0, 7, .inl a_dFirst)), (q 46, .inl (E.2.1 0, 7, .inl a_dLast))]) [0, 1, 2, 3, 4, 5, 6, 7, 8] rfl
    have hD9 := hD.sub (ws' := [(h0, .inr (12, mG q i_taped i_size i_sort i_what i_at i_end i_worth i_faultKind i_faultPlace i_got i_worked (nI dl) i_isPlanned i_bestDone i_bestCost)), (q 51, .inl (E.2.1 0, 512, .inl n_9)), (q 52, .inl (E.2.1 0, 512, .inl n_10)), (q 49, .inl (E.2.1 0, 100, .inl a_flights)), (q 42, .inl (E.2.1 0, 7, .inl a_dFrom)), (q 43, .inl (E.2.1 0, 7, .inl a_dTo)), (q 44, .inl (E.2.1 0, 7, .inl a_dDays)), (q 45, .inl (E.2.1 0, 7, .inl a_dFirst)), (q 46, .inl (E.2.1 0, 7, .inl a_dLast))]) [0, 1, 2, 3, 4, 5, 6, 7, 8] (by decide) rfl
    exact W.vret hx hb hr (fun t ht hW => ⟨⟨(n_9, n_10), rfl, trivial, hI_order, by rw [ht]; exact hP9, hD9⟩, hS.F ht⟩) hS.2.2 dX12_tries_246
  · refine lv_iload hx hb dX12_tries_21 (lv_at hl 7 rfl) ?_
    refine lv_aload_n hx hb dX12_tries_23 rfl (lv_at hl 1 rfl) ?_
    refine va_get (D := E.1) (ci := 12) (v := .ref (q 51)) (C := RX12) (T := TX12) (N := 59) hx hb hts inX12 hown hK hP 0 rfl rfl 51 (by decide) fl130 (fun _ h9 => h9) rfl dX12_tries_24 ?_
    refine lv_iload hx hb dX12_tries_27 (lv_at hl 0 rfl) ?_
    refine va_iald hx hb hK hP 1 0 rfl rfl hi_3 dX12_tries_29 ?_
    refine lv_topi (fun x_11 ex_11 => ?_)
    refine lv_icmp_lt (tgt := 57) hx hb dX12_tries_30 (by decide) (fun c_12 => ?_) (fun c_12 => ?_)
    · refine lv_aload_n hx hb dX12_tries_57 rfl (lv_at hl 1 rfl) ?_
      refine va_get (D := E.1) (ci := 12) (v := .ref (q 51)) (C := RX12) (T := TX12) (N := 59) hx hb hts inX12 hown hK hP 0 rfl rfl 51 (by decide) fl130 (fun _ h9 => h9) rfl dX12_tries_58 ?_
      refine lv_iload hx hb dX12_tries_61 (lv_at hl 0 rfl) ?_
      refine lv_iload hx hb dX12_tries_63 (lv_at hl 7 rfl) ?_
      refine va_iast hx hb hK hP hD hS 1 0 rfl rfl hi_3 dX12_tries_65 (fun H locs hP hD hS => ?_)
      have hP : va_P E.1 vwCl [(h0, .inr (12, mG q i_taped i_size i_sort i_what i_at i_end i_worth i_faultKind i_faultPlace i_got i_worked (nI dl) i_isPlanned i_bestDone i_bestCost)), (q 51, .inl (E.2.1 0, 512, .inl (upd a_least (nI ((128 * cr) + se_)).toNatClampNeg co_))), (q 52, .inl (E.2.1 0, 512, .inl a_order)), (q 49, .inl (E.2.1 0, 100, .inl a_flights)), (q 42, .inl (E.2.1 0, 7, .inl a_dFrom)), (q 43, .inl (E.2.1 0, 7, .inl a_dTo)), (q 44, .inl (E.2.1 0, 7, .inl a_dDays)), (q 45, .inl (E.2.1 0, 7, .inl a_dFirst)), (q 46, .inl (E.2.1 0, 7, .inl a_dLast))] H := hP
      have hD : va_D A [(h0, .inr (12, mG q i_taped i_size i_sort i_what i_at i_end i_worth i_faultKind i_faultPlace i_got i_worked (nI dl) i_isPlanned i_bestDone i_bestCost)), (q 51, .inl (E.2.1 0, 512, .inl (upd a_least (nI ((128 * cr) + se_)).toNatClampNeg co_))), (q 52, .inl (E.2.1 0, 512, .inl a_order)), (q 49, .inl (E.2.1 0, 100, .inl a_flights)), (q 42, .inl (E.2.1 0, 7, .inl a_dFrom)), (q 43, .inl (E.2.1 0, 7, .inl a_dTo)), (q 44, .inl (E.2.1 0, 7, .inl a_dDays)), (q 45, .inl (E.2.1 0, 7, .inl a_dFirst)), (q 46, .inl (E.2.1 0, 7, .inl a_dLast))] := hD
      obtain ⟨f_13, ef_13⟩ : ∃ g : Nat → Int32, g = upd a_least (nI ((128 * cr) + se_)).toNatClampNeg co_ := ⟨_, rfl⟩
      rw [← ef_13] at hP hD
      refine lv_aload_n hx hb dX12_tries_66 rfl (lv_at hl 1 rfl) ?_
      refine va_get (D := E.1) (ci := 12) (v := .ref (q 52)) (C := RX12) (T := TX12) (N := 59) hx hb hts inX12 hown hK hP 0 rfl rfl 52 (by decide) fl133 (fun _ h9 => h9) rfl dX12_tries_67 ?_
      refine lv_iload hx hb dX12_tries_70 (lv_at hl 0 rfl) ?_
      refine lv_iload hx hb dX12_tries_72 (lv_at hl 6 rfl) ?_
      refine va_iast hx hb hK hP hD hS 2 0 rfl rfl hi_3 dX12_tries_74 (fun H locs hP hD hS => ?_)
      have hP : va_P E.1 vwCl [(h0, .inr (12, mG q i_taped i_size i_sort i_what i_at i_end i_worth i_faultKind i_faultPlace i_got i_worked (nI dl) i_isPlanned i_bestDone i_bestCost)), (q 51, .inl (E.2.1 0, 512, .inl f_13)), (q 52, .inl (E.2.1 0, 512, .inl (upd a_order (nI ((128 * cr) + se_)).toNatClampNeg (nI ro)))), (q 49, .inl (E.2.1 0, 100, .inl a_flights)), (q 42, .inl (E.2.1 0, 7, .inl a_dFrom)), (q 43, .inl (E.2.1 0, 7, .inl a_dTo)), (q 44, .inl (E.2.1 0, 7, .inl a_dDays)), (q 45, .inl (E.2.1 0, 7, .inl a_dFirst)), (q 46, .inl (E.2.1 0, 7, .inl a_dLast))] H := hP
      have hD : va_D A [(h0, .inr (12, mG q i_taped i_size i_sort i_what i_at i_end i_worth i_faultKind i_faultPlace i_got i_worked (nI dl) i_isPlanned i_bestDone i_bestCost)), (q 51, .inl (E.2.1 0, 512, .inl f_13)), (q 52, .inl (E.2.1 0, 512, .inl (upd a_order (nI ((128 * cr) + se_)).toNatClampNeg (nI ro)))), (q 49, .inl (E.2.1 0, 100, .inl a_flights)), (q 42, .inl (E.2.1 0, 7, .inl a_dFrom)), (q 43, .inl (E.2.1 0, 7, .inl a_dTo)), (q 44, .inl (E.2.1 0, 7, .inl a_dDays)), (q 45, .inl (E.2.1 0, 7, .inl a_dFirst)), (q 46, .inl (E.2.1 0, 7, .inl a_dLast))] := hD
      obtain ⟨f_14, ef_14⟩ : ∃ g : Nat → Int32, g = upd a_order (nI ((128 * cr) + se_)).toNatClampNeg (nI ro) := ⟨_, rfl⟩
      rw [← ef_14] at hP hD
      have hI_15 : ∀ k : Nat, k < 512 → digOK (f_14 k) := by rw [ef_14]; exact all_upd (P := fun z => digOK z) hI_order (dg_OK hro (by decide))
      refine lv_iconst (v := 0) hx hb dX12_tries_75 (by decide) ?_
      refine lv_istore (lv' := [(8, .int 0), (7, .int (nI ((128 * cr) + se_))), (0, .ref h0), (1, .int (nI cr)), (2, .int (nI po)), (3, .int da), (4, .int (nI se_)), (5, .int (nI ro)), (6, .int co_)]) hx hb dX12_tries_76 hl (by decide) rfl (fun ls hl => ?_)
      have hPl := hP.sub (ws' := [(h0, .inr (12, mG q i_taped i_size i_sort i_what i_at i_end i_worth i_faultKind i_faultPlace i_got i_worked (nI dl) i_isPlanned i_bestDone i_bestCost)), (q 51, .inl (E.2.1 0, 512, .inl f_13)), (q 52, .inl (E.2.1 0, 512, .inl f_14)), (q 49, .inl (E.2.1 0, 100, .inl a_flights)), (q 42, .inl (E.2.1 0, 7, .inl a_dFrom)), (q 43, .inl (E.2.1 0, 7, .inl a_dTo)), (q 44, .inl (E.2.1 0, 7, .inl a_dDays)), (q 45, .inl (E.2.1 0, 7, .inl a_dFirst)), (q 46, .inl (E.2.1 0, 7, .inl a_dLast))]) [0, 1, 2, 3, 4, 5, 6, 7, 8] rfl
      have hDl := hD.sub (ws' := [(h0, .inr (12, mG q i_taped i_size i_sort i_what i_at i_end i_worth i_faultKind i_faultPlace i_got i_worked (nI dl) i_isPlanned i_bestDone i_bestCost)), (q 51, .inl (E.2.1 0, 512, .inl f_13)), (q 52, .inl (E.2.1 0, 512, .inl f_14)), (q 49, .inl (E.2.1 0, 100, .inl a_flights)), (q 42, .inl (E.2.1 0, 7, .inl a_dFrom)), (q 43, .inl (E.2.1 0, 7, .inl a_dTo)), (q 44, .inl (E.2.1 0, 7, .inl a_dDays)), (q 45, .inl (E.2.1 0, 7, .inl a_dFirst)), (q 46, .inl (E.2.1 0, 7, .inl a_dLast))]) [0, 1, 2, 3, 4, 5, 6, 7, 8] (by decide) rfl
      refine lm_tries4 E h0 q i_taped i_size i_sort i_what i_at i_end i_worth i_faultKind i_faultPlace i_got i_worked i_isPlanned i_bestDone i_bestCost dl cr po se_ ro da co_ a_flights a_dFrom a_dTo a_dDays a_dFirst a_dLast hx hb hml hown hts hkn hst hA (by omega) (by omega) (by omega) (by omega) hbc hro hI_dFrom hI_dTo (fun n_16 n_17 H locs ls hI_order hP hD hS hl => ?_) 9 0 f_13 f_14 _ _ _ (by omega) (by omega) hI_15 hPl hDl hS (lv_sub hl [2, 3, 4, 5, 6, 7, 8, 0] rfl)
      have hP : va_P E.1 vwCl [(h0, .inr (12, mG q i_taped i_size i_sort i_what i_at i_end i_worth i_faultKind i_faultPlace i_got i_worked (nI dl) i_isPlanned i_bestDone i_bestCost)), (q 51, .inl (E.2.1 0, 512, .inl n_16)), (q 52, .inl (E.2.1 0, 512, .inl n_17)), (q 49, .inl (E.2.1 0, 100, .inl a_flights)), (q 42, .inl (E.2.1 0, 7, .inl a_dFrom)), (q 43, .inl (E.2.1 0, 7, .inl a_dTo)), (q 44, .inl (E.2.1 0, 7, .inl a_dDays)), (q 45, .inl (E.2.1 0, 7, .inl a_dFirst)), (q 46, .inl (E.2.1 0, 7, .inl a_dLast))] H := hP
      have hD : va_D A [(h0, .inr (12, mG q i_taped i_size i_sort i_what i_at i_end i_worth i_faultKind i_faultPlace i_got i_worked (nI dl) i_isPlanned i_bestDone i_bestCost)), (q 51, .inl (E.2.1 0, 512, .inl n_16)), (q 52, .inl (E.2.1 0, 512, .inl n_17)), (q 49, .inl (E.2.1 0, 100, .inl a_flights)), (q 42, .inl (E.2.1 0, 7, .inl a_dFrom)), (q 43, .inl (E.2.1 0, 7, .inl a_dTo)), (q 44, .inl (E.2.1 0, 7, .inl a_dDays)), (q 45, .inl (E.2.1 0, 7, .inl a_dFirst)), (q 46, .inl (E.2.1 0, 7, .inl a_dLast))] := hD
      have hP9 := hP.sub (ws' := [(h0, .inr (12, mG q i_taped i_size i_sort i_what i_at i_end i_worth i_faultKind i_faultPlace i_got i_worked (nI dl) i_isPlanned i_bestDone i_bestCost)), (q 51, .inl (E.2.1 0, 512, .inl n_16)), (q 52, .inl (E.2.1 0, 512, .inl n_17)), (q 49, .inl (E.2.1 0, 100, .inl a_flights)), (q 42, .inl (E.2.1 0, 7, .inl a_dFrom)), (q 43, .inl (E.2.1 0, 7, .inl a_dTo)), (q 44, .inl (E.2.1 0, 7, .inl a_dDays)), (q 45, .inl (E.2.1 0, 7, .inl a_dFirst)), (q 46, .inl (E.2.1 0, 7, .inl a_dLast))]) [0, 1, 2, 3, 4, 5, 6, 7, 8] rfl
      have hD9 := hD.sub (ws' := [(h0, .inr (12, mG q i_taped i_size i_sort i_what i_at i_end i_worth i_faultKind i_faultPlace i_got i_worked (nI dl) i_isPlanned i_bestDone i_bestCost)), (q 51, .inl (E.2.1 0, 512, .inl n_16)), (q 52, .inl (E.2.1 0, 512, .inl n_17)), (q 49, .inl (E.2.1 0, 100, .inl a_flights)), (q 42, .inl (E.2.1 0, 7, .inl a_dFrom)), (q 43, .inl (E.2.1 0, 7, .inl a_dTo)), (q 44, .inl (E.2.1 0, 7, .inl a_dDays)), (q 45, .inl (E.2.1 0, 7, .inl a_dFirst)), (q 46, .inl (E.2.1 0, 7, .inl a_dLast))]) [0, 1, 2, 3, 4, 5, 6, 7, 8] (by decide) rfl
      exact W.vret hx hb hr (fun t ht hW => ⟨⟨(n_16, n_17), rfl, trivial, hI_order, by rw [ht]; exact hP9, hD9⟩, hS.F ht⟩) hS.2.2 dX12_tries_246
    · refine lv_iload hx hb dX12_tries_33 (lv_at hl 7 rfl) ?_
      refine lv_aload_n hx hb dX12_tries_35 rfl (lv_at hl 1 rfl) ?_
      refine va_get (D := E.1) (ci := 12) (v := .ref (q 51)) (C := RX12) (T := TX12) (N := 59) hx hb hts inX12 hown hK hP 0 rfl rfl 51 (by decide) fl130 (fun _ h9 => h9) rfl dX12_tries_36 ?_
      refine lv_iload hx hb dX12_tries_39 (lv_at hl 0 rfl) ?_
      refine va_iald hx hb hK hP 1 0 rfl rfl hi_3 dX12_tries_41 ?_
      refine lv_topi (fun x_18 ex_18 => ?_)
      refine lv_icmp_ne (tgt := 75) hx hb dX12_tries_42 (by decide) (fun c_19 => ?_) (fun c_19 => ?_)
      · refine lv_iconst (v := 0) hx hb dX12_tries_75 (by decide) ?_
        refine lv_istore (lv' := [(8, .int 0), (7, .int (nI ((128 * cr) + se_))), (0, .ref h0), (1, .int (nI cr)), (2, .int (nI po)), (3, .int da), (4, .int (nI se_)), (5, .int (nI ro)), (6, .int co_)]) hx hb dX12_tries_76 hl (by decide) rfl (fun ls hl => ?_)
        have hPl := hP.sub (ws' := [(h0, .inr (12, mG q i_taped i_size i_sort i_what i_at i_end i_worth i_faultKind i_faultPlace i_got i_worked (nI dl) i_isPlanned i_bestDone i_bestCost)), (q 51, .inl (E.2.1 0, 512, .inl a_least)), (q 52, .inl (E.2.1 0, 512, .inl a_order)), (q 49, .inl (E.2.1 0, 100, .inl a_flights)), (q 42, .inl (E.2.1 0, 7, .inl a_dFrom)), (q 43, .inl (E.2.1 0, 7, .inl a_dTo)), (q 44, .inl (E.2.1 0, 7, .inl a_dDays)), (q 45, .inl (E.2.1 0, 7, .inl a_dFirst)), (q 46, .inl (E.2.1 0, 7, .inl a_dLast))]) [0, 1, 2, 3, 4, 5, 6, 7, 8] rfl
        have hDl := hD.sub (ws' := [(h0, .inr (12, mG q i_taped i_size i_sort i_what i_at i_end i_worth i_faultKind i_faultPlace i_got i_worked (nI dl) i_isPlanned i_bestDone i_bestCost)), (q 51, .inl (E.2.1 0, 512, .inl a_least)), (q 52, .inl (E.2.1 0, 512, .inl a_order)), (q 49, .inl (E.2.1 0, 100, .inl a_flights)), (q 42, .inl (E.2.1 0, 7, .inl a_dFrom)), (q 43, .inl (E.2.1 0, 7, .inl a_dTo)), (q 44, .inl (E.2.1 0, 7, .inl a_dDays)), (q 45, .inl (E.2.1 0, 7, .inl a_dFirst)), (q 46, .inl (E.2.1 0, 7, .inl a_dLast))]) [0, 1, 2, 3, 4, 5, 6, 7, 8] (by decide) rfl
        refine lm_tries4 E h0 q i_taped i_size i_sort i_what i_at i_end i_worth i_faultKind i_faultPlace i_got i_worked i_isPlanned i_bestDone i_bestCost dl cr po se_ ro da co_ a_flights a_dFrom a_dTo a_dDays a_dFirst a_dLast hx hb hml hown hts hkn hst hA (by omega) (by omega) (by omega) (by omega) hbc hro hI_dFrom hI_dTo (fun n_20 n_21 H locs ls hI_order hP hD hS hl => ?_) 9 0 a_least a_order _ _ _ (by omega) (by omega) hI_order hPl hDl hS (lv_sub hl [2, 3, 4, 5, 6, 7, 8, 0] rfl)
        have hP : va_P E.1 vwCl [(h0, .inr (12, mG q i_taped i_size i_sort i_what i_at i_end i_worth i_faultKind i_faultPlace i_got i_worked (nI dl) i_isPlanned i_bestDone i_bestCost)), (q 51, .inl (E.2.1 0, 512, .inl n_20)), (q 52, .inl (E.2.1 0, 512, .inl n_21)), (q 49, .inl (E.2.1 0, 100, .inl a_flights)), (q 42, .inl (E.2.1 0, 7, .inl a_dFrom)), (q 43, .inl (E.2.1 0, 7, .inl a_dTo)), (q 44, .inl (E.2.1 0, 7, .inl a_dDays)), (q 45, .inl (E.2.1 0, 7, .inl a_dFirst)), (q 46, .inl (E.2.1 0, 7, .inl a_dLast))] H := hP
        have hD : va_D A [(h0, .inr (12, mG q i_taped i_size i_sort i_what i_at i_end i_worth i_faultKind i_faultPlace i_got i_worked (nI dl) i_isPlanned i_bestDone i_bestCost)), (q 51, .inl (E.2.1 0, 512, .inl n_20)), (q 52, .inl (E.2.1 0, 512, .inl n_21)), (q 49, .inl (E.2.1 0, 100, .inl a_flights)), (q 42, .inl (E.2.1 0, 7, .inl a_dFrom)), (q 43, .inl (E.2.1 0, 7, .inl a_dTo)), (q 44, .inl (E.2.1 0, 7, .inl a_dDays)), (q 45, .inl (E.2.1 0, 7, .inl a_dFirst)), (q 46, .inl (E.2.1 0, 7, .inl a_dLast))] := hD
        have hP9 := hP.sub (ws' := [(h0, .inr (12, mG q i_taped i_size i_sort i_what i_at i_end i_worth i_faultKind i_faultPlace i_got i_worked (nI dl) i_isPlanned i_bestDone i_bestCost)), (q 51, .inl (E.2.1 0, 512, .inl n_20)), (q 52, .inl (E.2.1 0, 512, .inl n_21)), (q 49, .inl (E.2.1 0, 100, .inl a_flights)), (q 42, .inl (E.2.1 0, 7, .inl a_dFrom)), (q 43, .inl (E.2.1 0, 7, .inl a_dTo)), (q 44, .inl (E.2.1 0, 7, .inl a_dDays)), (q 45, .inl (E.2.1 0, 7, .inl a_dFirst)), (q 46, .inl (E.2.1 0, 7, .inl a_dLast))]) [0, 1, 2, 3, 4, 5, 6, 7, 8] rfl
        have hD9 := hD.sub (ws' := [(h0, .inr (12, mG q i_taped i_size i_sort i_what i_at i_end i_worth i_faultKind i_faultPlace i_got i_worked (nI dl) i_isPlanned i_bestDone i_bestCost)), (q 51, .inl (E.2.1 0, 512, .inl n_20)), (q 52, .inl (E.2.1 0, 512, .inl n_21)), (q 49, .inl (E.2.1 0, 100, .inl a_flights)), (q 42, .inl (E.2.1 0, 7, .inl a_dFrom)), (q 43, .inl (E.2.1 0, 7, .inl a_dTo)), (q 44, .inl (E.2.1 0, 7, .inl a_dDays)), (q 45, .inl (E.2.1 0, 7, .inl a_dFirst)), (q 46, .inl (E.2.1 0, 7, .inl a_dLast))]) [0, 1, 2, 3, 4, 5, 6, 7, 8] (by decide) rfl
        exact W.vret hx hb hr (fun t ht hW => ⟨⟨(n_20, n_21), rfl, trivial, hI_order, by rw [ht]; exact hP9, hD9⟩, hS.F ht⟩) hS.2.2 dX12_tries_246
      · refine lv_iload hx hb dX12_tries_45 (lv_at hl 6 rfl) ?_
        refine lv_aload_n hx hb dX12_tries_47 rfl (lv_at hl 1 rfl) ?_
        refine va_get (D := E.1) (ci := 12) (v := .ref (q 52)) (C := RX12) (T := TX12) (N := 59) hx hb hts inX12 hown hK hP 0 rfl rfl 52 (by decide) fl133 (fun _ h9 => h9) rfl dX12_tries_48 ?_
        refine lv_iload hx hb dX12_tries_51 (lv_at hl 0 rfl) ?_
        refine va_iald hx hb hK hP 2 0 rfl rfl hi_3 dX12_tries_53 ?_
        refine lv_topi (fun x_22 ex_22 => ?_)
        have hv_23 : digOK x_22 := by rw [ex_22]; exact hI_order _ (vin_cl hi_3)
        refine lv_icmp_ge (tgt := 75) hx hb dX12_tries_54 (by decide) (fun c_24 => ?_) (fun c_24 => ?_)
        · refine lv_iconst (v := 0) hx hb dX12_tries_75 (by decide) ?_
          refine lv_istore (lv' := [(8, .int 0), (7, .int (nI ((128 * cr) + se_))), (0, .ref h0), (1, .int (nI cr)), (2, .int (nI po)), (3, .int da), (4, .int (nI se_)), (5, .int (nI ro)), (6, .int co_)]) hx hb dX12_tries_76 hl (by decide) rfl (fun ls hl => ?_)
          have hPl := hP.sub (ws' := [(h0, .inr (12, mG q i_taped i_size i_sort i_what i_at i_end i_worth i_faultKind i_faultPlace i_got i_worked (nI dl) i_isPlanned i_bestDone i_bestCost)), (q 51, .inl (E.2.1 0, 512, .inl a_least)), (q 52, .inl (E.2.1 0, 512, .inl a_order)), (q 49, .inl (E.2.1 0, 100, .inl a_flights)), (q 42, .inl (E.2.1 0, 7, .inl a_dFrom)), (q 43, .inl (E.2.1 0, 7, .inl a_dTo)), (q 44, .inl (E.2.1 0, 7, .inl a_dDays)), (q 45, .inl (E.2.1 0, 7, .inl a_dFirst)), (q 46, .inl (E.2.1 0, 7, .inl a_dLast))]) [0, 1, 2, 3, 4, 5, 6, 7, 8] rfl
          have hDl := hD.sub (ws' := [(h0, .inr (12, mG q i_taped i_size i_sort i_what i_at i_end i_worth i_faultKind i_faultPlace i_got i_worked (nI dl) i_isPlanned i_bestDone i_bestCost)), (q 51, .inl (E.2.1 0, 512, .inl a_least)), (q 52, .inl (E.2.1 0, 512, .inl a_order)), (q 49, .inl (E.2.1 0, 100, .inl a_flights)), (q 42, .inl (E.2.1 0, 7, .inl a_dFrom)), (q 43, .inl (E.2.1 0, 7, .inl a_dTo)), (q 44, .inl (E.2.1 0, 7, .inl a_dDays)), (q 45, .inl (E.2.1 0, 7, .inl a_dFirst)), (q 46, .inl (E.2.1 0, 7, .inl a_dLast))]) [0, 1, 2, 3, 4, 5, 6, 7, 8] (by decide) rfl
          refine lm_tries4 E h0 q i_taped i_size i_sort i_what i_at i_end i_worth i_faultKind i_faultPlace i_got i_worked i_isPlanned i_bestDone i_bestCost dl cr po se_ ro da co_ a_flights a_dFrom a_dTo a_dDays a_dFirst a_dLast hx hb hml hown hts hkn hst hA (by omega) (by omega) (by omega) (by omega) hbc hro hI_dFrom hI_dTo (fun n_25 n_26 H locs ls hI_order hP hD hS hl => ?_) 9 0 a_least a_order _ _ _ (by omega) (by omega) hI_order hPl hDl hS (lv_sub hl [2, 3, 4, 5, 6, 7, 8, 0] rfl)
          have hP : va_P E.1 vwCl [(h0, .inr (12, mG q i_taped i_size i_sort i_what i_at i_end i_worth i_faultKind i_faultPlace i_got i_worked (nI dl) i_isPlanned i_bestDone i_bestCost)), (q 51, .inl (E.2.1 0, 512, .inl n_25)), (q 52, .inl (E.2.1 0, 512, .inl n_26)), (q 49, .inl (E.2.1 0, 100, .inl a_flights)), (q 42, .inl (E.2.1 0, 7, .inl a_dFrom)), (q 43, .inl (E.2.1 0, 7, .inl a_dTo)), (q 44, .inl (E.2.1 0, 7, .inl a_dDays)), (q 45, .inl (E.2.1 0, 7, .inl a_dFirst)), (q 46, .inl (E.2.1 0, 7, .inl a_dLast))] H := hP
          have hD : va_D A [(h0, .inr (12, mG q i_taped i_size i_sort i_what i_at i_end i_worth i_faultKind i_faultPlace i_got i_worked (nI dl) i_isPlanned i_bestDone i_bestCost)), (q 51, .inl (E.2.1 0, 512, .inl n_25)), (q 52, .inl (E.2.1 0, 512, .inl n_26)), (q 49, .inl (E.2.1 0, 100, .inl a_flights)), (q 42, .inl (E.2.1 0, 7, .inl a_dFrom)), (q 43, .inl (E.2.1 0, 7, .inl a_dTo)), (q 44, .inl (E.2.1 0, 7, .inl a_dDays)), (q 45, .inl (E.2.1 0, 7, .inl a_dFirst)), (q 46, .inl (E.2.1 0, 7, .inl a_dLast))] := hD
          have hP9 := hP.sub (ws' := [(h0, .inr (12, mG q i_taped i_size i_sort i_what i_at i_end i_worth i_faultKind i_faultPlace i_got i_worked (nI dl) i_isPlanned i_bestDone i_bestCost)), (q 51, .inl (E.2.1 0, 512, .inl n_25)), (q 52, .inl (E.2.1 0, 512, .inl n_26)), (q 49, .inl (E.2.1 0, 100, .inl a_flights)), (q 42, .inl (E.2.1 0, 7, .inl a_dFrom)), (q 43, .inl (E.2.1 0, 7, .inl a_dTo)), (q 44, .inl (E.2.1 0, 7, .inl a_dDays)), (q 45, .inl (E.2.1 0, 7, .inl a_dFirst)), (q 46, .inl (E.2.1 0, 7, .inl a_dLast))]) [0, 1, 2, 3, 4, 5, 6, 7, 8] rfl
          have hD9 := hD.sub (ws' := [(h0, .inr (12, mG q i_taped i_size i_sort i_what i_at i_end i_worth i_faultKind i_faultPlace i_got i_worked (nI dl) i_isPlanned i_bestDone i_bestCost)), (q 51, .inl (E.2.1 0, 512, .inl n_25)), (q 52, .inl (E.2.1 0, 512, .inl n_26)), (q 49, .inl (E.2.1 0, 100, .inl a_flights)), (q 42, .inl (E.2.1 0, 7, .inl a_dFrom)), (q 43, .inl (E.2.1 0, 7, .inl a_dTo)), (q 44, .inl (E.2.1 0, 7, .inl a_dDays)), (q 45, .inl (E.2.1 0, 7, .inl a_dFirst)), (q 46, .inl (E.2.1 0, 7, .inl a_dLast))]) [0, 1, 2, 3, 4, 5, 6, 7, 8] (by decide) rfl
          exact W.vret hx hb hr (fun t ht hW => ⟨⟨(n_25, n_26), rfl, trivial, hI_order, by rw [ht]; exact hP9, hD9⟩, hS.F ht⟩) hS.2.2 dX12_tries_246
        · refine lv_aload_n hx hb dX12_tries_57 rfl (lv_at hl 1 rfl) ?_
          refine va_get (D := E.1) (ci := 12) (v := .ref (q 51)) (C := RX12) (T := TX12) (N := 59) hx hb hts inX12 hown hK hP 0 rfl rfl 51 (by decide) fl130 (fun _ h9 => h9) rfl dX12_tries_58 ?_
          refine lv_iload hx hb dX12_tries_61 (lv_at hl 0 rfl) ?_
          refine lv_iload hx hb dX12_tries_63 (lv_at hl 7 rfl) ?_
          refine va_iast hx hb hK hP hD hS 1 0 rfl rfl hi_3 dX12_tries_65 (fun H locs hP hD hS => ?_)
          have hP : va_P E.1 vwCl [(h0, .inr (12, mG q i_taped i_size i_sort i_what i_at i_end i_worth i_faultKind i_faultPlace i_got i_worked (nI dl) i_isPlanned i_bestDone i_bestCost)), (q 51, .inl (E.2.1 0, 512, .inl (upd a_least (nI ((128 * cr) + se_)).toNatClampNeg co_))), (q 52, .inl (E.2.1 0, 512, .inl a_order)), (q 49, .inl (E.2.1 0, 100, .inl a_flights)), (q 42, .inl (E.2.1 0, 7, .inl a_dFrom)), (q 43, .inl (E.2.1 0, 7, .inl a_dTo)), (q 44, .inl (E.2.1 0, 7, .inl a_dDays)), (q 45, .inl (E.2.1 0, 7, .inl a_dFirst)), (q 46, .inl (E.2.1 0, 7, .inl a_dLast))] H := hP
          have hD : va_D A [(h0, .inr (12, mG q i_taped i_size i_sort i_what i_at i_end i_worth i_faultKind i_faultPlace i_got i_worked (nI dl) i_isPlanned i_bestDone i_bestCost)), (q 51, .inl (E.2.1 0, 512, .inl (upd a_least (nI ((128 * cr) + se_)).toNatClampNeg co_))), (q 52, .inl (E.2.1 0, 512, .inl a_order)), (q 49, .inl (E.2.1 0, 100, .inl a_flights)), (q 42, .inl (E.2.1 0, 7, .inl a_dFrom)), (q 43, .inl (E.2.1 0, 7, .inl a_dTo)), (q 44, .inl (E.2.1 0, 7, .inl a_dDays)), (q 45, .inl (E.2.1 0, 7, .inl a_dFirst)), (q 46, .inl (E.2.1 0, 7, .inl a_dLast))] := hD
          obtain ⟨f_27, ef_27⟩ : ∃ g : Nat → Int32, g = upd a_least (nI ((128 * cr) + se_)).toNatClampNeg co_ := ⟨_, rfl⟩
          rw [← ef_27] at hP hD
          refine lv_aload_n hx hb dX12_tries_66 rfl (lv_at hl 1 rfl) ?_
          refine va_get (D := E.1) (ci := 12) (v := .ref (q 52)) (C := RX12) (T := TX12) (N := 59) hx hb hts inX12 hown hK hP 0 rfl rfl 52 (by decide) fl133 (fun _ h9 => h9) rfl dX12_tries_67 ?_
          refine lv_iload hx hb dX12_tries_70 (lv_at hl 0 rfl) ?_
          refine lv_iload hx hb dX12_tries_72 (lv_at hl 6 rfl) ?_
          refine va_iast hx hb hK hP hD hS 2 0 rfl rfl hi_3 dX12_tries_74 (fun H locs hP hD hS => ?_)
          have hP : va_P E.1 vwCl [(h0, .inr (12, mG q i_taped i_size i_sort i_what i_at i_end i_worth i_faultKind i_faultPlace i_got i_worked (nI dl) i_isPlanned i_bestDone i_bestCost)), (q 51, .inl (E.2.1 0, 512, .inl f_27)), (q 52, .inl (E.2.1 0, 512, .inl (upd a_order (nI ((128 * cr) + se_)).toNatClampNeg (nI ro)))), (q 49, .inl (E.2.1 0, 100, .inl a_flights)), (q 42, .inl (E.2.1 0, 7, .inl a_dFrom)), (q 43, .inl (E.2.1 0, 7, .inl a_dTo)), (q 44, .inl (E.2.1 0, 7, .inl a_dDays)), (q 45, .inl (E.2.1 0, 7, .inl a_dFirst)), (q 46, .inl (E.2.1 0, 7, .inl a_dLast))] H := hP
          have hD : va_D A [(h0, .inr (12, mG q i_taped i_size i_sort i_what i_at i_end i_worth i_faultKind i_faultPlace i_got i_worked (nI dl) i_isPlanned i_bestDone i_bestCost)), (q 51, .inl (E.2.1 0, 512, .inl f_27)), (q 52, .inl (E.2.1 0, 512, .inl (upd a_order (nI ((128 * cr) + se_)).toNatClampNeg (nI ro)))), (q 49, .inl (E.2.1 0, 100, .inl a_flights)), (q 42, .inl (E.2.1 0, 7, .inl a_dFrom)), (q 43, .inl (E.2.1 0, 7, .inl a_dTo)), (q 44, .inl (E.2.1 0, 7, .inl a_dDays)), (q 45, .inl (E.2.1 0, 7, .inl a_dFirst)), (q 46, .inl (E.2.1 0, 7, .inl a_dLast))] := hD
          obtain ⟨f_28, ef_28⟩ : ∃ g : Nat → Int32, g = upd a_order (nI ((128 * cr) + se_)).toNatClampNeg (nI ro) := ⟨_, rfl⟩
          rw [← ef_28] at hP hD
          have hI_29 : ∀ k : Nat, k < 512 → digOK (f_28 k) := by rw [ef_28]; exact all_upd (P := fun z => digOK z) hI_order (dg_OK hro (by decide))
          refine lv_iconst (v := 0) hx hb dX12_tries_75 (by decide) ?_
          refine lv_istore (lv' := [(8, .int 0), (7, .int (nI ((128 * cr) + se_))), (0, .ref h0), (1, .int (nI cr)), (2, .int (nI po)), (3, .int da), (4, .int (nI se_)), (5, .int (nI ro)), (6, .int co_)]) hx hb dX12_tries_76 hl (by decide) rfl (fun ls hl => ?_)
          have hPl := hP.sub (ws' := [(h0, .inr (12, mG q i_taped i_size i_sort i_what i_at i_end i_worth i_faultKind i_faultPlace i_got i_worked (nI dl) i_isPlanned i_bestDone i_bestCost)), (q 51, .inl (E.2.1 0, 512, .inl f_27)), (q 52, .inl (E.2.1 0, 512, .inl f_28)), (q 49, .inl (E.2.1 0, 100, .inl a_flights)), (q 42, .inl (E.2.1 0, 7, .inl a_dFrom)), (q 43, .inl (E.2.1 0, 7, .inl a_dTo)), (q 44, .inl (E.2.1 0, 7, .inl a_dDays)), (q 45, .inl (E.2.1 0, 7, .inl a_dFirst)), (q 46, .inl (E.2.1 0, 7, .inl a_dLast))]) [0, 1, 2, 3, 4, 5, 6, 7, 8] rfl
          have hDl := hD.sub (ws' := [(h0, .inr (12, mG q i_taped i_size i_sort i_what i_at i_end i_worth i_faultKind i_faultPlace i_got i_worked (nI dl) i_isPlanned i_bestDone i_bestCost)), (q 51, .inl (E.2.1 0, 512, .inl f_27)), (q 52, .inl (E.2.1 0, 512, .inl f_28)), (q 49, .inl (E.2.1 0, 100, .inl a_flights)), (q 42, .inl (E.2.1 0, 7, .inl a_dFrom)), (q 43, .inl (E.2.1 0, 7, .inl a_dTo)), (q 44, .inl (E.2.1 0, 7, .inl a_dDays)), (q 45, .inl (E.2.1 0, 7, .inl a_dFirst)), (q 46, .inl (E.2.1 0, 7, .inl a_dLast))]) [0, 1, 2, 3, 4, 5, 6, 7, 8] (by decide) rfl
          refine lm_tries4 E h0 q i_taped i_size i_sort i_what i_at i_end i_worth i_faultKind i_faultPlace i_got i_worked i_isPlanned i_bestDone i_bestCost dl cr po se_ ro da co_ a_flights a_dFrom a_dTo a_dDays a_dFirst a_dLast hx hb hml hown hts hkn hst hA (by omega) (by omega) (by omega) (by omega) hbc hro hI_dFrom hI_dTo (fun n_30 n_31 H locs ls hI_order hP hD hS hl => ?_) 9 0 f_27 f_28 _ _ _ (by omega) (by omega) hI_29 hPl hDl hS (lv_sub hl [2, 3, 4, 5, 6, 7, 8, 0] rfl)
          have hP : va_P E.1 vwCl [(h0, .inr (12, mG q i_taped i_size i_sort i_what i_at i_end i_worth i_faultKind i_faultPlace i_got i_worked (nI dl) i_isPlanned i_bestDone i_bestCost)), (q 51, .inl (E.2.1 0, 512, .inl n_30)), (q 52, .inl (E.2.1 0, 512, .inl n_31)), (q 49, .inl (E.2.1 0, 100, .inl a_flights)), (q 42, .inl (E.2.1 0, 7, .inl a_dFrom)), (q 43, .inl (E.2.1 0, 7, .inl a_dTo)), (q 44, .inl (E.2.1 0, 7, .inl a_dDays)), (q 45, .inl (E.2.1 0, 7, .inl a_dFirst)), (q 46, .inl (E.2.1 0, 7, .inl a_dLast))] H := hP
          have hD : va_D A [(h0, .inr (12, mG q i_taped i_size i_sort i_what i_at i_end i_worth i_faultKind i_faultPlace i_got i_worked (nI dl) i_isPlanned i_bestDone i_bestCost)), (q 51, .inl (E.2.1 0, 512, .inl n_30)), (q 52, .inl (E.2.1 0, 512, .inl n_31)), (q 49, .inl (E.2.1 0, 100, .inl a_flights)), (q 42, .inl (E.2.1 0, 7, .inl a_dFrom)), (q 43, .inl (E.2.1 0, 7, .inl a_dTo)), (q 44, .inl (E.2.1 0, 7, .inl a_dDays)), (q 45, .inl (E.2.1 0, 7, .inl a_dFirst)), (q 46, .inl (E.2.1 0, 7, .inl a_dLast))] := hD
          have hP9 := hP.sub (ws' := [(h0, .inr (12, mG q i_taped i_size i_sort i_what i_at i_end i_worth i_faultKind i_faultPlace i_got i_worked (nI dl) i_isPlanned i_bestDone i_bestCost)), (q 51, .inl (E.2.1 0, 512, .inl n_30)), (q 52, .inl (E.2.1 0, 512, .inl n_31)), (q 49, .inl (E.2.1 0, 100, .inl a_flights)), (q 42, .inl (E.2.1 0, 7, .inl a_dFrom)), (q 43, .inl (E.2.1 0, 7, .inl a_dTo)), (q 44, .inl (E.2.1 0, 7, .inl a_dDays)), (q 45, .inl (E.2.1 0, 7, .inl a_dFirst)), (q 46, .inl (E.2.1 0, 7, .inl a_dLast))]) [0, 1, 2, 3, 4, 5, 6, 7, 8] rfl
          have hD9 := hD.sub (ws' := [(h0, .inr (12, mG q i_taped i_size i_sort i_what i_at i_end i_worth i_faultKind i_faultPlace i_got i_worked (nI dl) i_isPlanned i_bestDone i_bestCost)), (q 51, .inl (E.2.1 0, 512, .inl n_30)), (q 52, .inl (E.2.1 0, 512, .inl n_31)), (q 49, .inl (E.2.1 0, 100, .inl a_flights)), (q 42, .inl (E.2.1 0, 7, .inl a_dFrom)), (q 43, .inl (E.2.1 0, 7, .inl a_dTo)), (q 44, .inl (E.2.1 0, 7, .inl a_dDays)), (q 45, .inl (E.2.1 0, 7, .inl a_dFirst)), (q 46, .inl (E.2.1 0, 7, .inl a_dLast))]) [0, 1, 2, 3, 4, 5, 6, 7, 8] (by decide) rfl
          exact W.vret hx hb hr (fun t ht hW => ⟨⟨(n_30, n_31), rfl, trivial, hI_order, by rw [ht]; exact hP9, hD9⟩, hS.F ht⟩) hS.2.2 dX12_tries_246
set_option maxHeartbeats 4000000 in
set_option maxRecDepth 100000 in
theorem lm_tries3 {p : Program} {l : Launch} {e : Env} {s : State} {m : MethodId} {args : Array Value} {below : List Frame} {meth : Method} {c : Code} {Q : State → Prop} {A : Nat → Prop} (E : vE) (h0 : Nat) (q : Nat → Nat) (i_taped : Int32) (i_size : Int32) (i_sort : Int32) (i_what : Int32) (i_at : Int32) (i_end : Int32) (i_worth : Int32) (i_faultKind : Int32) (i_faultPlace : Int32) (i_got : Int32) (i_worked : Int32) (i_isPlanned : Int32) (i_bestDone : Int32) (i_bestCost : Int32) (dl : Nat) (cr : Nat) (po : Nat) (se_ : Nat) (ro : Nat) (da : Int32) (co_ : Int32) (a_flights : Nat → Int32) (a_dFrom : Nat → Int32) (a_dTo : Nat → Int32) (a_dDays : Nat → Int32) (a_dFirst : Nat → Int32) (a_dLast : Nat → Int32) (hx : p.tables.exec = Jvm.exec) (hb : c.code = cX12_tries) (hml : c.maxLocals = 11) (hown : s.vm.findClass RX12 = some m.cls) (hts : ∀ w ∈ wsX12_tries, w.before args s = true) (hkn : kn E s) (hst : st E A s s.heap) (hA : ∀ q : Nat, s.heap.size ≤ q → A q) (hcr : cr < 4) (hpo : po ≤ 9) (hse : se_ < 128) (hdl : dl ≤ 7) (hbc : bc7 se_ = 3) (hro : dg ro 3) (hI_dFrom : ∀ k : Nat, k < 7 → inR (a_dFrom k) 0 9 = true) (hI_dTo : ∀ k : Nat, k < 7 → inR (a_dTo k) 0 9 = true) (kk : ∀ (a_least : Nat → Int32) (a_order : Nat → Int32) (H : Heap) (locs : List Loc) (ls : Array Slot), (∀ k : Nat, k < 512 → digOK (a_order k)) → va_P E.1 vwCl [(h0, .inr (12, mG q i_taped i_size i_sort i_what i_at i_end i_worth i_faultKind i_faultPlace i_got i_worked (nI dl) i_isPlanned i_bestDone i_bestCost)), (q 51, .inl (E.2.1 0, 512, .inl a_least)), (q 52, .inl (E.2.1 0, 512, .inl a_order)), (q 49, .inl (E.2.1 0, 100, .inl a_flights)), (q 42, .inl (E.2.1 0, 7, .inl a_dFrom)), (q 43, .inl (E.2.1 0, 7, .inl a_dTo)), (q 44, .inl (E.2.1 0, 7, .inl a_dDays)), (q 45, .inl (E.2.1 0, 7, .inl a_dFirst)), (q 46, .inl (E.2.1 0, 7, .inl a_dLast))] H → va_D A [(h0, .inr (12, mG q i_taped i_size i_sort i_what i_at i_end i_worth i_faultKind i_faultPlace i_got i_worked (nI dl) i_isPlanned i_bestDone i_bestCost)), (q 51, .inl (E.2.1 0, 512, .inl a_least)), (q 52, .inl (E.2.1 0, 512, .inl a_order)), (q 49, .inl (E.2.1 0, 100, .inl a_flights)), (q 42, .inl (E.2.1 0, 7, .inl a_dFrom)), (q 43, .inl (E.2.1 0, 7, .inl a_dTo)), (q 44, .inl (E.2.1 0, 7, .inl a_dDays)), (q 45, .inl (E.2.1 0, 7, .inl a_dFirst)), (q 46, .inl (E.2.1 0, 7, .inl a_dLast))] → va_S A s.heap H locs → lv_has ls 11 [(0, .ref h0)] → W p l e ({ frames := 4, cells := 0, slots := 0, locals := 120 }) s m args below meth c H locs 0 0 Q (F0 m 246 ls [])) : ∀ (n0 : Nat) (k : Nat) (a_least : Nat → Int32) (a_order : Nat → Int32) (H : Heap) (locs : List Loc) (ls : Array Slot), 8 - k < n0 → (k ≤ 7) → (∀ k : Nat, k < 512 → digOK (a_order k)) → va_P E.1 vwCl [(h0, .inr (12, mG q i_taped i_size i_sort i_what i_at i_end i_worth i_faultKind i_faultPlace i_got i_worked (nI dl) i_isPlanned i_bestDone i_bestCost)), (q 51, .inl (E.2.1 0, 512, .inl a_least)), (q 52, .inl (E.2.1 0, 512, .inl a_order)), (q 49, .inl (E.2.1 0, 100, .inl a_flights)), (q 42, .inl (E.2.1 0, 7, .inl a_dFrom)), (q 43, .inl (E.2.1 0, 7, .inl a_dTo)), (q 44, .inl (E.2.1 0, 7, .inl a_dDays)), (q 45, .inl (E.2.1 0, 7, .inl a_dFirst)), (q 46, .inl (E.2.1 0, 7, .inl a_dLast))] H → va_D A [(h0, .inr (12, mG q i_taped i_size i_sort i_what i_at i_end i_worth i_faultKind i_faultPlace i_got i_worked (nI dl) i_isPlanned i_bestDone i_bestCost)), (q 51, .inl (E.2.1 0, 512, .inl a_least)), (q 52, .inl (E.2.1 0, 512, .inl a_order)), (q 49, .inl (E.2.1 0, 100, .inl a_flights)), (q 42, .inl (E.2.1 0, 7, .inl a_dFrom)), (q 43, .inl (E.2.1 0, 7, .inl a_dTo)), (q 44, .inl (E.2.1 0, 7, .inl a_dDays)), (q 45, .inl (E.2.1 0, 7, .inl a_dFirst)), (q 46, .inl (E.2.1 0, 7, .inl a_dLast))] → va_S A s.heap H locs → lv_has ls 11 [(0, .ref h0), (1, .int (nI cr)), (2, .int (nI po)), (3, .int da), (4, .int (nI se_)), (5, .int (nI ro)), (6, .int co_), (8, .int (nI k))] → W p l e ({ frames := 4, cells := 0, slots := 0, locals := 120 }) s m args below meth c H locs 0 0 Q (F0 m 78 ls []) := by
  have hK := hkn.1
  have hAO := hkn.2.2.1
  have fl106 := hts (.fieldLink RX12 106 "BoatsHomeModel" "dFrom" "[I") (by first | exact List.mem_of_getElem? (i := 5) rfl | decide +kernel)
  have fl109 := hts (.fieldLink RX12 109 "BoatsHomeModel" "dTo" "[I") (by first | exact List.mem_of_getElem? (i := 8) rfl | decide +kernel)
  have fl112 := hts (.fieldLink RX12 112 "BoatsHomeModel" "dDays" "[I") (by first | exact List.mem_of_getElem? (i := 9) rfl | decide +kernel)
  have fl115 := hts (.fieldLink RX12 115 "BoatsHomeModel" "dFirst" "[I") (by first | exact List.mem_of_getElem? (i := 6) rfl | decide +kernel)
  have fl118 := hts (.fieldLink RX12 118 "BoatsHomeModel" "dLast" "[I") (by first | exact List.mem_of_getElem? (i := 7) rfl | decide +kernel)
  have fl127 := hts (.fieldLink RX12 127 "BoatsHomeModel" "flights" "[I") (by first | exact List.mem_of_getElem? (i := 4) rfl | decide +kernel)
  have fl130 := hts (.fieldLink RX12 130 "BoatsHomeModel" "least" "[I") (by first | exact List.mem_of_getElem? (i := 1) rfl | decide +kernel)
  have fl133 := hts (.fieldLink RX12 133 "BoatsHomeModel" "order" "[I") (by first | exact List.mem_of_getElem? (i := 2) rfl | decide +kernel)
  have fl289 := hts (.fieldLink RX12 289 "BoatsHomeModel" "deliveries" "I") (by first | exact List.mem_of_getElem? (i := 3) rfl | decide +kernel)
  have inX12 : ∀ w ∈ u_ws RX12 TX12 59, w ∈ wsX12_tries := by first | exact fun w h9 => (List.mem_cons_of_mem _ (List.mem_append_right _ h9)) | decide +kernel
  intro n0
  induction n0 with
  | zero =>
    intro k a_least a_order H locs ls hn0
    exact absurd hn0 (Nat.not_lt_zero _)
  | succ n0 ih =>
    intro k a_least a_order H locs ls hn0 hk hI_order hP hD hS hl
    refine lv_iload hx hb dX12_tries_78 (lv_at hl 7 rfl) ?_
    refine lv_aload_n hx hb dX12_tries_80 rfl (lv_at hl 0 rfl) ?_
    refine va_get (D := E.1) (ci := 12) (v := .int (nI dl)) (C := RX12) (T := TX12) (N := 59) hx hb hts inX12 hown hK hP 0 rfl rfl 41 (by decide) fl289 (fun _ h9 => h9) rfl dX12_tries_81 ?_
    refine lv_icmp_ge (tgt := 246) hx hb dX12_tries_84 (by decide) (fun c_1 => ?_) (fun c_1 => ?_)
    · exact kk a_least a_order _ _ _ hI_order (hP.sub [0, 1, 2, 3, 4, 5, 6, 7, 8] rfl) (hD.sub [0, 1, 2, 3, 4, 5, 6, 7, 8] (by decide) rfl) hS (lv_sub hl [0] rfl)
    · have hlt : k < 7 := by have := lt_of_nle (by omega) c_1; omega
      refine lv_iload hx hb dX12_tries_87 (lv_at hl 4 rfl) ?_
      refine lv_iload hx hb dX12_tries_89 (lv_at hl 7 rfl) ?_
      refine lv_ishr hx hb dX12_tries_91 ?_
      refine lv_topi (fun x_2 ex_2 => ?_)
      refine lv_iconst (v := 1) hx hb dX12_tries_92 (by decide) ?_
      refine lv_iand hx hb dX12_tries_93 ?_
      refine lv_topi (fun x_3 ex_3 => ?_)
      refine lv_iconst (v := 1) hx hb dX12_tries_94 (by decide) ?_
      refine lv_icmp_eq (tgt := 240) hx hb dX12_tries_95 (by decide) (fun c_4 => ?_) (fun c_4 => ?_)
      · refine lv_iinc (v := (nI (k + 1))) (lv' := [(8, .int (nI (k + 1))), (0, .ref h0), (1, .int (nI cr)), (2, .int (nI po)), (3, .int da), (4, .int (nI se_)), (5, .int (nI ro)), (6, .int co_)]) hx hb dX12_tries_240 hl (k := 7) rfl (show nI k + 1 = nI (k + 1) from nI_1 k) (by decide) rfl (fun ls hl => ?_)
        refine lv_goto (tgt := 78) hx hb dX12_tries_243 (by decide) ?_
        exact ih (k + 1) a_least a_order _ _ _ (by omega) (by omega) hI_order (hP.sub [0, 1, 2, 3, 4, 5, 6, 7, 8] rfl) (hD.sub [0, 1, 2, 3, 4, 5, 6, 7, 8] (by decide) rfl) hS (lv_sub hl [1, 2, 3, 4, 5, 6, 7, 0] rfl)
      · refine lv_aload_n hx hb dX12_tries_98 rfl (lv_at hl 0 rfl) ?_
        refine va_get (D := E.1) (ci := 12) (v := .ref (q 49)) (C := RX12) (T := TX12) (N := 59) hx hb hts inX12 hown hK hP 0 rfl rfl 49 (by decide) fl127 (fun _ h9 => h9) rfl dX12_tries_99 ?_
        refine lv_bipush (v := 10) hx hb dX12_tries_102 (by decide) ?_
        refine lv_iload_n hx hb dX12_tries_104 rfl (lv_at hl 2 rfl) ?_
        refine lv_imul hx hb dX12_tries_105 ?_
        refine lv_topi (fun x_5 ex_5 => ?_)
        obtain rfl : x_5 = nI (10 * po) := ex_5.trans (pk_mul 10 po)
        refine lv_aload_n hx hb dX12_tries_106 rfl (lv_at hl 0 rfl) ?_
        refine va_get (D := E.1) (ci := 12) (v := .ref (q 42)) (C := RX12) (T := TX12) (N := 59) hx hb hts inX12 hown hK hP 0 rfl rfl 42 (by decide) fl106 (fun _ h9 => h9) rfl dX12_tries_107 ?_
        refine lv_iload hx hb dX12_tries_110 (lv_at hl 7 rfl) ?_
        have hi_6 : vp_in (nI k) 7 := vp_in_nI (by omega) (by decide)
        refine va_iald hx hb hK hP 4 0 rfl rfl hi_6 dX12_tries_112 ?_
        refine lv_topi (fun x_7 ex_7 => ?_)
        have hv_8 : inR x_7 0 9 = true := by rw [ex_7]; exact hI_dFrom _ (vin_cl hi_6)
        obtain ⟨w_9, hw_10, ew_11⟩ := inR_nI (n := 9) (by decide) hv_8
        subst ew_11
        refine lv_iadd hx hb dX12_tries_113 ?_
        refine lv_topi (fun x_12 ex_12 => ?_)
        obtain rfl : x_12 = nI ((10 * po) + w_9) := ex_12.trans (nI_add (10 * po) w_9)
        have hi_13 : vp_in (nI ((10 * po) + w_9)) 100 := vp_in_nI (by omega) (by decide)
        refine va_iald hx hb hK hP 3 0 rfl rfl hi_13 dX12_tries_114 ?_
        refine lv_topi (fun x_14 ex_14 => ?_)
        refine lv_iconst (v := (-1)) hx hb dX12_tries_115 (by decide) ?_
        refine lv_icmp_ne (tgt := 122) hx hb dX12_tries_116 (by decide) (fun c_15 => ?_) (fun c_15 => ?_)
        · refine lv_iload_n hx hb dX12_tries_122 rfl (lv_at hl 3 rfl) ?_
          refine lv_iload_n hx hb dX12_tries_123 rfl (lv_at hl 2 rfl) ?_
          refine lv_aload_n hx hb dX12_tries_124 rfl (lv_at hl 0 rfl) ?_
          refine va_get (D := E.1) (ci := 12) (v := .ref (q 42)) (C := RX12) (T := TX12) (N := 59) hx hb hts inX12 hown hK hP 0 rfl rfl 42 (by decide) fl106 (fun _ h9 => h9) rfl dX12_tries_125 ?_
          refine lv_iload hx hb dX12_tries_128 (lv_at hl 7 rfl) ?_
          refine va_iald hx hb hK hP 4 0 rfl rfl hi_6 dX12_tries_130 ?_
          refine lv_topi (fun x_16 ex_16 => ?_)
          obtain rfl : x_16 = nI w_9 := ex_16.trans ex_7.symm
          refine lv_icmp_ne (tgt := 138) hx hb dX12_tries_131 (by decide) (fun c_17 => ?_) (fun c_17 => ?_)
          · refine lv_iconst (v := 1) hx hb dX12_tries_138 (by decide) ?_
            refine lv_iadd hx hb dX12_tries_139 ?_
            refine lv_topi (fun x_18 ex_18 => ?_)
            refine lv_istore (lv' := [(9, .int x_18), (0, .ref h0), (1, .int (nI cr)), (2, .int (nI po)), (3, .int da), (4, .int (nI se_)), (5, .int (nI ro)), (6, .int co_), (8, .int (nI k))]) hx hb dX12_tries_140 hl (by decide) rfl (fun ls hl => ?_)
            refine lv_iload hx hb dX12_tries_142 (lv_at hl 0 rfl) ?_
            refine lv_aload_n hx hb dX12_tries_144 rfl (lv_at hl 1 rfl) ?_
            refine va_get (D := E.1) (ci := 12) (v := .ref (q 45)) (C := RX12) (T := TX12) (N := 59) hx hb hts inX12 hown hK hP 0 rfl rfl 45 (by decide) fl115 (fun _ h9 => h9) rfl dX12_tries_145 ?_
            refine lv_iload hx hb dX12_tries_148 (lv_at hl 8 rfl) ?_
            refine va_iald hx hb hK hP 7 0 rfl rfl hi_6 dX12_tries_150 ?_
            refine lv_topi (fun x_19 ex_19 => ?_)
            refine lv_icmp_le (tgt := 159) hx hb dX12_tries_151 (by decide) (fun c_20 => ?_) (fun c_20 => ?_)
            · refine lv_aload_n hx hb dX12_tries_159 rfl (lv_at hl 1 rfl) ?_
              refine va_get (D := E.1) (ci := 12) (v := .ref (q 45)) (C := RX12) (T := TX12) (N := 59) hx hb hts inX12 hown hK hP 0 rfl rfl 45 (by decide) fl115 (fun _ h9 => h9) rfl dX12_tries_160 ?_
              refine lv_iload hx hb dX12_tries_163 (lv_at hl 8 rfl) ?_
              refine va_iald hx hb hK hP 7 0 rfl rfl hi_6 dX12_tries_165 ?_
              refine lv_topi (fun x_21 ex_21 => ?_)
              refine lv_istore (lv' := [(10, .int x_21), (9, .int x_18), (0, .ref h0), (1, .int (nI cr)), (2, .int (nI po)), (3, .int da), (4, .int (nI se_)), (5, .int (nI ro)), (6, .int co_), (8, .int (nI k))]) hx hb dX12_tries_166 hl (by decide) rfl (fun ls hl => ?_)
              refine lv_iload hx hb dX12_tries_168 (lv_at hl 0 rfl) ?_
              refine lv_aload_n hx hb dX12_tries_170 rfl (lv_at hl 2 rfl) ?_
              refine va_get (D := E.1) (ci := 12) (v := .ref (q 46)) (C := RX12) (T := TX12) (N := 59) hx hb hts inX12 hown hK hP 0 rfl rfl 46 (by decide) fl118 (fun _ h9 => h9) rfl dX12_tries_171 ?_
              refine lv_iload hx hb dX12_tries_174 (lv_at hl 9 rfl) ?_
              refine va_iald hx hb hK hP 8 0 rfl rfl hi_6 dX12_tries_176 ?_
              refine lv_topi (fun x_22 ex_22 => ?_)
              refine lv_icmp_le (tgt := 183) hx hb dX12_tries_177 (by decide) (fun c_23 => ?_) (fun c_23 => ?_)
              · refine lv_aload_n hx hb dX12_tries_183 rfl (lv_at hl 2 rfl) ?_
                refine lv_iload_n hx hb dX12_tries_184 rfl (lv_at hl 3 rfl) ?_
                refine lv_aload_n hx hb dX12_tries_185 rfl (lv_at hl 2 rfl) ?_
                refine va_get (D := E.1) (ci := 12) (v := .ref (q 43)) (C := RX12) (T := TX12) (N := 59) hx hb hts inX12 hown hK hP 0 rfl rfl 43 (by decide) fl109 (fun _ h9 => h9) rfl dX12_tries_186 ?_
                refine lv_iload hx hb dX12_tries_189 (lv_at hl 9 rfl) ?_
                refine va_iald hx hb hK hP 5 0 rfl rfl hi_6 dX12_tries_191 ?_
                refine lv_topi (fun x_24 ex_24 => ?_)
                have hv_25 : inR x_24 0 9 = true := by rw [ex_24]; exact hI_dTo _ (vin_cl hi_6)
                obtain ⟨w_26, hw_27, ew_28⟩ := inR_nI (n := 9) (by decide) hv_25
                subst ew_28
                refine lv_iload hx hb dX12_tries_192 (lv_at hl 0 rfl) ?_
                refine lv_aload_n hx hb dX12_tries_194 rfl (lv_at hl 2 rfl) ?_
                refine va_get (D := E.1) (ci := 12) (v := .ref (q 44)) (C := RX12) (T := TX12) (N := 59) hx hb hts inX12 hown hK hP 0 rfl rfl 44 (by decide) fl112 (fun _ h9 => h9) rfl dX12_tries_195 ?_
                refine lv_iload hx hb dX12_tries_198 (lv_at hl 9 rfl) ?_
                refine va_iald hx hb hK hP 6 0 rfl rfl hi_6 dX12_tries_200 ?_
                refine lv_topi (fun x_29 ex_29 => ?_)
                refine lv_iadd hx hb dX12_tries_201 ?_
                refine lv_topi (fun x_30 ex_30 => ?_)
                refine lv_iload hx hb dX12_tries_202 (lv_at hl 6 rfl) ?_
                refine lv_iconst (v := 1) hx hb dX12_tries_204 (by decide) ?_
                refine lv_iload hx hb dX12_tries_205 (lv_at hl 9 rfl) ?_
                refine lv_ishl hx hb dX12_tries_207 ?_
                refine lv_topi (fun x_31 ex_31 => ?_)
                refine lv_ior hx hb dX12_tries_208 ?_
                refine lv_topi (fun x_32 ex_32 => ?_)
                obtain ⟨w_33, hw_34, hw_34b, hw_34e⟩ : ∃ w, w < 128 ∧ bc7 w = 3 + 1 ∧ x_32 = nI w := by rw [ex_32, ex_31]; exact tr_bit hse hlt hbc (by rw [ex_3, ex_2] at c_4; exact c_4)
                subst hw_34e
                refine lv_bipush (v := 8) hx hb dX12_tries_209 (by decide) ?_
                refine lv_iload hx hb dX12_tries_211 (lv_at hl 7 rfl) ?_
                refine lv_imul hx hb dX12_tries_213 ?_
                refine lv_topi (fun x_35 ex_35 => ?_)
                obtain rfl : x_35 = nI (8 * ro) := ex_35.trans (pk_mul 8 ro)
                refine lv_iload hx hb dX12_tries_214 (lv_at hl 9 rfl) ?_
                refine lv_iadd hx hb dX12_tries_216 ?_
                refine lv_topi (fun x_36 ex_36 => ?_)
                obtain rfl : x_36 = nI ((8 * ro) + k) := ex_36.trans (nI_add (8 * ro) k)
                refine lv_iload hx hb dX12_tries_217 (lv_at hl 8 rfl) ?_
                refine lv_aload_n hx hb dX12_tries_219 rfl (lv_at hl 2 rfl) ?_
                refine va_get (D := E.1) (ci := 12) (v := .ref (q 49)) (C := RX12) (T := TX12) (N := 59) hx hb hts inX12 hown hK hP 0 rfl rfl 49 (by decide) fl127 (fun _ h9 => h9) rfl dX12_tries_220 ?_
                refine lv_bipush (v := 10) hx hb dX12_tries_223 (by decide) ?_
                refine lv_iload_n hx hb dX12_tries_225 rfl (lv_at hl 4 rfl) ?_
                refine lv_imul hx hb dX12_tries_226 ?_
                refine lv_topi (fun x_37 ex_37 => ?_)
                obtain rfl : x_37 = nI (10 * po) := ex_37.trans (pk_mul 10 po)
                refine lv_aload_n hx hb dX12_tries_227 rfl (lv_at hl 2 rfl) ?_
                refine va_get (D := E.1) (ci := 12) (v := .ref (q 42)) (C := RX12) (T := TX12) (N := 59) hx hb hts inX12 hown hK hP 0 rfl rfl 42 (by decide) fl106 (fun _ h9 => h9) rfl dX12_tries_228 ?_
                refine lv_iload hx hb dX12_tries_231 (lv_at hl 9 rfl) ?_
                refine va_iald hx hb hK hP 4 0 rfl rfl hi_6 dX12_tries_233 ?_
                refine lv_topi (fun x_38 ex_38 => ?_)
                obtain rfl : x_38 = nI w_9 := ex_38.trans ex_7.symm
                refine lv_iadd hx hb dX12_tries_234 ?_
                refine lv_topi (fun x_39 ex_39 => ?_)
                obtain rfl : x_39 = nI ((10 * po) + w_9) := ex_39.trans (nI_add (10 * po) w_9)
                refine va_iald hx hb hK hP 3 0 rfl rfl hi_13 dX12_tries_235 ?_
                refine lv_topi (fun x_40 ex_40 => ?_)
                refine lv_iadd hx hb dX12_tries_236 ?_
                refine lv_topi (fun x_41 ex_41 => ?_)
                have hPc := hP.sub (ws' := [(h0, .inr (12, mG q i_taped i_size i_sort i_what i_at i_end i_worth i_faultKind i_faultPlace i_got i_worked (nI dl) i_isPlanned i_bestDone i_bestCost)), (q 51, .inl (E.2.1 0, 512, .inl a_least)), (q 52, .inl (E.2.1 0, 512, .inl a_order)), (q 49, .inl (E.2.1 0, 100, .inl a_flights)), (q 42, .inl (E.2.1 0, 7, .inl a_dFrom)), (q 43, .inl (E.2.1 0, 7, .inl a_dTo)), (q 44, .inl (E.2.1 0, 7, .inl a_dDays)), (q 45, .inl (E.2.1 0, 7, .inl a_dFirst)), (q 46, .inl (E.2.1 0, 7, .inl a_dLast))]) [0, 1, 2, 3, 4, 5, 6, 7, 8] rfl
                have hDc := hD.sub (ws' := [(h0, .inr (12, mG q i_taped i_size i_sort i_what i_at i_end i_worth i_faultKind i_faultPlace i_got i_worked (nI dl) i_isPlanned i_bestDone i_bestCost)), (q 51, .inl (E.2.1 0, 512, .inl a_least)), (q 52, .inl (E.2.1 0, 512, .inl a_order)), (q 49, .inl (E.2.1 0, 100, .inl a_flights)), (q 42, .inl (E.2.1 0, 7, .inl a_dFrom)), (q 43, .inl (E.2.1 0, 7, .inl a_dTo)), (q 44, .inl (E.2.1 0, 7, .inl a_dDays)), (q 45, .inl (E.2.1 0, 7, .inl a_dFirst)), (q 46, .inl (E.2.1 0, 7, .inl a_dLast))]) [0, 1, 2, 3, 4, 5, 6, 7, 8] (by decide) rfl
                have hFc := va_free (wc := [(h0, .inr (12, mG q i_taped i_size i_sort i_what i_at i_end i_worth i_faultKind i_faultPlace i_got i_worked (nI dl) i_isPlanned i_bestDone i_bestCost)), (q 51, .inl (E.2.1 0, 512, .inl a_least)), (q 52, .inl (E.2.1 0, 512, .inl a_order)), (q 49, .inl (E.2.1 0, 100, .inl a_flights)), (q 42, .inl (E.2.1 0, 7, .inl a_dFrom)), (q 43, .inl (E.2.1 0, 7, .inl a_dTo)), (q 44, .inl (E.2.1 0, 7, .inl a_dDays)), (q 45, .inl (E.2.1 0, 7, .inl a_dFirst)), (q 46, .inl (E.2.1 0, 7, .inl a_dLast))]) hD hS hA [0, 1, 2, 3, 4, 5, 6, 7, 8] rfl
                refine va_callv (va_runV (As := [.int (nI cr), .int (nI w_26), .int x_30, .int (nI w_33), .int (nI ((8 * ro) + k)), .int x_41]) (rest := []) ⟨hx, hb, hml, hown, hts⟩ (c_X12_tries4 l E h0 q i_taped i_size i_sort i_what i_at i_end i_worth i_faultKind i_faultPlace i_got i_worked i_isPlanned i_bestDone i_bestCost dl cr w_26 w_33 ((8 * ro) + k) a_least a_order a_flights a_dFrom a_dTo a_dDays a_dFirst a_dLast x_30 x_41 H.size hcr (by omega) hw_34 hdl hw_34b (dg_step hro hlt) hI_order hI_dFrom hI_dTo) (cwV 6 hts gX12_tries_X12_tries rfl rfl rfl hdV_X12_tries ⟨Nat.le_of_ble_eq_true rfl, Nat.le_of_ble_eq_true rfl⟩) ⟨pcW_blind, va_recv hK hPc (ci := 12) (q0 := 0) rfl rfl, (pcW_pre hPc hkn hDc hst hS hFc)⟩ rfl rfl hl.1 rfl (lv_room (Nat.le_of_ble_eq_true rfl)) dX12_tries_237 ⟨Nat.le_of_ble_eq_true rfl, Nat.le_of_ble_eq_true rfl⟩) hS (fun q _ h => hFc q h) hFc (fun u t H1 locs ht hvm hw_43 hB hz1 hk1 hS => ?_)
                obtain ⟨u_44, u_45⟩ := u
                obtain ⟨hf_46, hP1, hD1⟩ := hB
                rw [ht] at hP1
                try dsimp only at hw_43
                obtain ⟨hP, hD⟩ := va_join (wr := []) (w1 := [(h0, .inr (12, mG q i_taped i_size i_sort i_what i_at i_end i_worth i_faultKind i_faultPlace i_got i_worked (nI dl) i_isPlanned i_bestDone i_bestCost)), (q 51, .inl (E.2.1 0, 512, .inl u_44)), (q 52, .inl (E.2.1 0, 512, .inl u_45)), (q 49, .inl (E.2.1 0, 100, .inl a_flights)), (q 42, .inl (E.2.1 0, 7, .inl a_dFrom)), (q 43, .inl (E.2.1 0, 7, .inl a_dTo)), (q 44, .inl (E.2.1 0, 7, .inl a_dDays)), (q 45, .inl (E.2.1 0, 7, .inl a_dFirst)), (q 46, .inl (E.2.1 0, 7, .inl a_dLast))]) hP hD [0, 1, 2, 3, 4, 5, 6, 7, 8] [] rfl rfl (by decide) (by decide) hk1 hFc hP1 hD1
                generalize H1 = H at hP hS ⊢
                have hP : va_P E.1 vwCl [(h0, .inr (12, mG q i_taped i_size i_sort i_what i_at i_end i_worth i_faultKind i_faultPlace i_got i_worked (nI dl) i_isPlanned i_bestDone i_bestCost)), (q 51, .inl (E.2.1 0, 512, .inl u_44)), (q 52, .inl (E.2.1 0, 512, .inl u_45)), (q 49, .inl (E.2.1 0, 100, .inl a_flights)), (q 42, .inl (E.2.1 0, 7, .inl a_dFrom)), (q 43, .inl (E.2.1 0, 7, .inl a_dTo)), (q 44, .inl (E.2.1 0, 7, .inl a_dDays)), (q 45, .inl (E.2.1 0, 7, .inl a_dFirst)), (q 46, .inl (E.2.1 0, 7, .inl a_dLast))] H := hP
                have hD : va_D A [(h0, .inr (12, mG q i_taped i_size i_sort i_what i_at i_end i_worth i_faultKind i_faultPlace i_got i_worked (nI dl) i_isPlanned i_bestDone i_bestCost)), (q 51, .inl (E.2.1 0, 512, .inl u_44)), (q 52, .inl (E.2.1 0, 512, .inl u_45)), (q 49, .inl (E.2.1 0, 100, .inl a_flights)), (q 42, .inl (E.2.1 0, 7, .inl a_dFrom)), (q 43, .inl (E.2.1 0, 7, .inl a_dTo)), (q 44, .inl (E.2.1 0, 7, .inl a_dDays)), (q 45, .inl (E.2.1 0, 7, .inl a_dFirst)), (q 46, .inl (E.2.1 0, 7, .inl a_dLast))] := hD
                refine lv_iinc (v := (nI (k + 1))) (lv' := [(8, .int (nI (k + 1))), (10, .int x_21), (9, .int x_18), (0, .ref h0), (1, .int (nI cr)), (2, .int (nI po)), (3, .int da), (4, .int (nI se_)), (5, .int (nI ro)), (6, .int co_)]) hx hb dX12_tries_240 hl (k := 9) rfl (show nI k + 1 = nI (k + 1) from nI_1 k) (by decide) rfl (fun ls hl => ?_)
                refine lv_goto (tgt := 78) hx hb dX12_tries_243 (by decide) ?_
                exact ih (k + 1) u_44 u_45 _ _ _ (by omega) (by omega) hf_46 (hP.sub [0, 1, 2, 3, 4, 5, 6, 7, 8] rfl) (hD.sub [0, 1, 2, 3, 4, 5, 6, 7, 8] (by decide) rfl) hS (lv_sub hl [3, 4, 5, 6, 7, 8, 9, 0] rfl)
              · refine lv_goto (tgt := 240) hx hb dX12_tries_180 (by decide) ?_
                refine lv_iinc (v := (nI (k + 1))) (lv' := [(8, .int (nI (k + 1))), (10, .int x_21), (9, .int x_18), (0, .ref h0), (1, .int (nI cr)), (2, .int (nI po)), (3, .int da), (4, .int (nI se_)), (5, .int (nI ro)), (6, .int co_)]) hx hb dX12_tries_240 hl (k := 9) rfl (show nI k + 1 = nI (k + 1) from nI_1 k) (by decide) rfl (fun ls hl => ?_)
                refine lv_goto (tgt := 78) hx hb dX12_tries_243 (by decide) ?_
                exact ih (k + 1) a_least a_order _ _ _ (by omega) (by omega) hI_order (hP.sub [0, 1, 2, 3, 4, 5, 6, 7, 8] rfl) (hD.sub [0, 1, 2, 3, 4, 5, 6, 7, 8] (by decide) rfl) hS (lv_sub hl [3, 4, 5, 6, 7, 8, 9, 0] rfl)
            · refine lv_iload hx hb dX12_tries_154 (lv_at hl 0 rfl) ?_
              refine lv_goto (tgt := 166) hx hb dX12_tries_156 (by decide) ?_
              refine lv_istore (lv' := [(10, .int x_18), (9, .int x_18), (0, .ref h0), (1, .int (nI cr)), (2, .int (nI po)), (3, .int da), (4, .int (nI se_)), (5, .int (nI ro)), (6, .int co_), (8, .int (nI k))]) hx hb dX12_tries_166 hl (by decide) rfl (fun ls hl => ?_)
              refine lv_iload hx hb dX12_tries_168 (lv_at hl 0 rfl) ?_
              refine lv_aload_n hx hb dX12_tries_170 rfl (lv_at hl 2 rfl) ?_
              refine va_get (D := E.1) (ci := 12) (v := .ref (q 46)) (C := RX12) (T := TX12) (N := 59) hx hb hts inX12 hown hK hP 0 rfl rfl 46 (by decide) fl118 (fun _ h9 => h9) rfl dX12_tries_171 ?_
              refine lv_iload hx hb dX12_tries_174 (lv_at hl 9 rfl) ?_
              refine va_iald hx hb hK hP 8 0 rfl rfl hi_6 dX12_tries_176 ?_
              refine lv_topi (fun x_47 ex_47 => ?_)
              refine lv_icmp_le (tgt := 183) hx hb dX12_tries_177 (by decide) (fun c_48 => ?_) (fun c_48 => ?_)
              · refine lv_aload_n hx hb dX12_tries_183 rfl (lv_at hl 2 rfl) ?_
                refine lv_iload_n hx hb dX12_tries_184 rfl (lv_at hl 3 rfl) ?_
                refine lv_aload_n hx hb dX12_tries_185 rfl (lv_at hl 2 rfl) ?_
                refine va_get (D := E.1) (ci := 12) (v := .ref (q 43)) (C := RX12) (T := TX12) (N := 59) hx hb hts inX12 hown hK hP 0 rfl rfl 43 (by decide) fl109 (fun _ h9 => h9) rfl dX12_tries_186 ?_
                refine lv_iload hx hb dX12_tries_189 (lv_at hl 9 rfl) ?_
                refine va_iald hx hb hK hP 5 0 rfl rfl hi_6 dX12_tries_191 ?_
                refine lv_topi (fun x_49 ex_49 => ?_)
                have hv_50 : inR x_49 0 9 = true := by rw [ex_49]; exact hI_dTo _ (vin_cl hi_6)
                obtain ⟨w_51, hw_52, ew_53⟩ := inR_nI (n := 9) (by decide) hv_50
                subst ew_53
                refine lv_iload hx hb dX12_tries_192 (lv_at hl 0 rfl) ?_
                refine lv_aload_n hx hb dX12_tries_194 rfl (lv_at hl 2 rfl) ?_
                refine va_get (D := E.1) (ci := 12) (v := .ref (q 44)) (C := RX12) (T := TX12) (N := 59) hx hb hts inX12 hown hK hP 0 rfl rfl 44 (by decide) fl112 (fun _ h9 => h9) rfl dX12_tries_195 ?_
                refine lv_iload hx hb dX12_tries_198 (lv_at hl 9 rfl) ?_
                refine va_iald hx hb hK hP 6 0 rfl rfl hi_6 dX12_tries_200 ?_
                refine lv_topi (fun x_54 ex_54 => ?_)
                refine lv_iadd hx hb dX12_tries_201 ?_
                refine lv_topi (fun x_55 ex_55 => ?_)
                refine lv_iload hx hb dX12_tries_202 (lv_at hl 6 rfl) ?_
                refine lv_iconst (v := 1) hx hb dX12_tries_204 (by decide) ?_
                refine lv_iload hx hb dX12_tries_205 (lv_at hl 9 rfl) ?_
                refine lv_ishl hx hb dX12_tries_207 ?_
                refine lv_topi (fun x_56 ex_56 => ?_)
                refine lv_ior hx hb dX12_tries_208 ?_
                refine lv_topi (fun x_57 ex_57 => ?_)
                obtain ⟨w_58, hw_59, hw_59b, hw_59e⟩ : ∃ w, w < 128 ∧ bc7 w = 3 + 1 ∧ x_57 = nI w := by rw [ex_57, ex_56]; exact tr_bit hse hlt hbc (by rw [ex_3, ex_2] at c_4; exact c_4)
                subst hw_59e
                refine lv_bipush (v := 8) hx hb dX12_tries_209 (by decide) ?_
                refine lv_iload hx hb dX12_tries_211 (lv_at hl 7 rfl) ?_
                refine lv_imul hx hb dX12_tries_213 ?_
                refine lv_topi (fun x_60 ex_60 => ?_)
                obtain rfl : x_60 = nI (8 * ro) := ex_60.trans (pk_mul 8 ro)
                refine lv_iload hx hb dX12_tries_214 (lv_at hl 9 rfl) ?_
                refine lv_iadd hx hb dX12_tries_216 ?_
                refine lv_topi (fun x_61 ex_61 => ?_)
                obtain rfl : x_61 = nI ((8 * ro) + k) := ex_61.trans (nI_add (8 * ro) k)
                refine lv_iload hx hb dX12_tries_217 (lv_at hl 8 rfl) ?_
                refine lv_aload_n hx hb dX12_tries_219 rfl (lv_at hl 2 rfl) ?_
                refine va_get (D := E.1) (ci := 12) (v := .ref (q 49)) (C := RX12) (T := TX12) (N := 59) hx hb hts inX12 hown hK hP 0 rfl rfl 49 (by decide) fl127 (fun _ h9 => h9) rfl dX12_tries_220 ?_
                refine lv_bipush (v := 10) hx hb dX12_tries_223 (by decide) ?_
                refine lv_iload_n hx hb dX12_tries_225 rfl (lv_at hl 4 rfl) ?_
                refine lv_imul hx hb dX12_tries_226 ?_
                refine lv_topi (fun x_62 ex_62 => ?_)
                obtain rfl : x_62 = nI (10 * po) := ex_62.trans (pk_mul 10 po)
                refine lv_aload_n hx hb dX12_tries_227 rfl (lv_at hl 2 rfl) ?_
                refine va_get (D := E.1) (ci := 12) (v := .ref (q 42)) (C := RX12) (T := TX12) (N := 59) hx hb hts inX12 hown hK hP 0 rfl rfl 42 (by decide) fl106 (fun _ h9 => h9) rfl dX12_tries_228 ?_
                refine lv_iload hx hb dX12_tries_231 (lv_at hl 9 rfl) ?_
                refine va_iald hx hb hK hP 4 0 rfl rfl hi_6 dX12_tries_233 ?_
                refine lv_topi (fun x_63 ex_63 => ?_)
                obtain rfl : x_63 = nI w_9 := ex_63.trans ex_7.symm
                refine lv_iadd hx hb dX12_tries_234 ?_
                refine lv_topi (fun x_64 ex_64 => ?_)
                obtain rfl : x_64 = nI ((10 * po) + w_9) := ex_64.trans (nI_add (10 * po) w_9)
                refine va_iald hx hb hK hP 3 0 rfl rfl hi_13 dX12_tries_235 ?_
                refine lv_topi (fun x_65 ex_65 => ?_)
                refine lv_iadd hx hb dX12_tries_236 ?_
                refine lv_topi (fun x_66 ex_66 => ?_)
                have hPc := hP.sub (ws' := [(h0, .inr (12, mG q i_taped i_size i_sort i_what i_at i_end i_worth i_faultKind i_faultPlace i_got i_worked (nI dl) i_isPlanned i_bestDone i_bestCost)), (q 51, .inl (E.2.1 0, 512, .inl a_least)), (q 52, .inl (E.2.1 0, 512, .inl a_order)), (q 49, .inl (E.2.1 0, 100, .inl a_flights)), (q 42, .inl (E.2.1 0, 7, .inl a_dFrom)), (q 43, .inl (E.2.1 0, 7, .inl a_dTo)), (q 44, .inl (E.2.1 0, 7, .inl a_dDays)), (q 45, .inl (E.2.1 0, 7, .inl a_dFirst)), (q 46, .inl (E.2.1 0, 7, .inl a_dLast))]) [0, 1, 2, 3, 4, 5, 6, 7, 8] rfl
                have hDc := hD.sub (ws' := [(h0, .inr (12, mG q i_taped i_size i_sort i_what i_at i_end i_worth i_faultKind i_faultPlace i_got i_worked (nI dl) i_isPlanned i_bestDone i_bestCost)), (q 51, .inl (E.2.1 0, 512, .inl a_least)), (q 52, .inl (E.2.1 0, 512, .inl a_order)), (q 49, .inl (E.2.1 0, 100, .inl a_flights)), (q 42, .inl (E.2.1 0, 7, .inl a_dFrom)), (q 43, .inl (E.2.1 0, 7, .inl a_dTo)), (q 44, .inl (E.2.1 0, 7, .inl a_dDays)), (q 45, .inl (E.2.1 0, 7, .inl a_dFirst)), (q 46, .inl (E.2.1 0, 7, .inl a_dLast))]) [0, 1, 2, 3, 4, 5, 6, 7, 8] (by decide) rfl
                have hFc := va_free (wc := [(h0, .inr (12, mG q i_taped i_size i_sort i_what i_at i_end i_worth i_faultKind i_faultPlace i_got i_worked (nI dl) i_isPlanned i_bestDone i_bestCost)), (q 51, .inl (E.2.1 0, 512, .inl a_least)), (q 52, .inl (E.2.1 0, 512, .inl a_order)), (q 49, .inl (E.2.1 0, 100, .inl a_flights)), (q 42, .inl (E.2.1 0, 7, .inl a_dFrom)), (q 43, .inl (E.2.1 0, 7, .inl a_dTo)), (q 44, .inl (E.2.1 0, 7, .inl a_dDays)), (q 45, .inl (E.2.1 0, 7, .inl a_dFirst)), (q 46, .inl (E.2.1 0, 7, .inl a_dLast))]) hD hS hA [0, 1, 2, 3, 4, 5, 6, 7, 8] rfl
                refine va_callv (va_runV (As := [.int (nI cr), .int (nI w_51), .int x_55, .int (nI w_58), .int (nI ((8 * ro) + k)), .int x_66]) (rest := []) ⟨hx, hb, hml, hown, hts⟩ (c_X12_tries4 l E h0 q i_taped i_size i_sort i_what i_at i_end i_worth i_faultKind i_faultPlace i_got i_worked i_isPlanned i_bestDone i_bestCost dl cr w_51 w_58 ((8 * ro) + k) a_least a_order a_flights a_dFrom a_dTo a_dDays a_dFirst a_dLast x_55 x_66 H.size hcr (by omega) hw_59 hdl hw_59b (dg_step hro hlt) hI_order hI_dFrom hI_dTo) (cwV 6 hts gX12_tries_X12_tries rfl rfl rfl hdV_X12_tries ⟨Nat.le_of_ble_eq_true rfl, Nat.le_of_ble_eq_true rfl⟩) ⟨pcW_blind, va_recv hK hPc (ci := 12) (q0 := 0) rfl rfl, (pcW_pre hPc hkn hDc hst hS hFc)⟩ rfl rfl hl.1 rfl (lv_room (Nat.le_of_ble_eq_true rfl)) dX12_tries_237 ⟨Nat.le_of_ble_eq_true rfl, Nat.le_of_ble_eq_true rfl⟩) hS (fun q _ h => hFc q h) hFc (fun u t H1 locs ht hvm hw_68 hB hz1 hk1 hS => ?_)
                obtain ⟨u_69, u_70⟩ := u
                obtain ⟨hf_71, hP1, hD1⟩ := hB
                rw [ht] at hP1
                try dsimp only at hw_68
                obtain ⟨hP, hD⟩ := va_join (wr := []) (w1 := [(h0, .inr (12, mG q i_taped i_size i_sort i_what i_at i_end i_worth i_faultKind i_faultPlace i_got i_worked (nI dl) i_isPlanned i_bestDone i_bestCost)), (q 51, .inl (E.2.1 0, 512, .inl u_69)), (q 52, .inl (E.2.1 0, 512, .inl u_70)), (q 49, .inl (E.2.1 0, 100, .inl a_flights)), (q 42, .inl (E.2.1 0, 7, .inl a_dFrom)), (q 43, .inl (E.2.1 0, 7, .inl a_dTo)), (q 44, .inl (E.2.1 0, 7, .inl a_dDays)), (q 45, .inl (E.2.1 0, 7, .inl a_dFirst)), (q 46, .inl (E.2.1 0, 7, .inl a_dLast))]) hP hD [0, 1, 2, 3, 4, 5, 6, 7, 8] [] rfl rfl (by decide) (by decide) hk1 hFc hP1 hD1
                generalize H1 = H at hP hS ⊢
                have hP : va_P E.1 vwCl [(h0, .inr (12, mG q i_taped i_size i_sort i_what i_at i_end i_worth i_faultKind i_faultPlace i_got i_worked (nI dl) i_isPlanned i_bestDone i_bestCost)), (q 51, .inl (E.2.1 0, 512, .inl u_69)), (q 52, .inl (E.2.1 0, 512, .inl u_70)), (q 49, .inl (E.2.1 0, 100, .inl a_flights)), (q 42, .inl (E.2.1 0, 7, .inl a_dFrom)), (q 43, .inl (E.2.1 0, 7, .inl a_dTo)), (q 44, .inl (E.2.1 0, 7, .inl a_dDays)), (q 45, .inl (E.2.1 0, 7, .inl a_dFirst)), (q 46, .inl (E.2.1 0, 7, .inl a_dLast))] H := hP
                have hD : va_D A [(h0, .inr (12, mG q i_taped i_size i_sort i_what i_at i_end i_worth i_faultKind i_faultPlace i_got i_worked (nI dl) i_isPlanned i_bestDone i_bestCost)), (q 51, .inl (E.2.1 0, 512, .inl u_69)), (q 52, .inl (E.2.1 0, 512, .inl u_70)), (q 49, .inl (E.2.1 0, 100, .inl a_flights)), (q 42, .inl (E.2.1 0, 7, .inl a_dFrom)), (q 43, .inl (E.2.1 0, 7, .inl a_dTo)), (q 44, .inl (E.2.1 0, 7, .inl a_dDays)), (q 45, .inl (E.2.1 0, 7, .inl a_dFirst)), (q 46, .inl (E.2.1 0, 7, .inl a_dLast))] := hD
                refine lv_iinc (v := (nI (k + 1))) (lv' := [(8, .int (nI (k + 1))), (10, .int x_18), (9, .int x_18), (0, .ref h0), (1, .int (nI cr)), (2, .int (nI po)), (3, .int da), (4, .int (nI se_)), (5, .int (nI ro)), (6, .int co_)]) hx hb dX12_tries_240 hl (k := 9) rfl (show nI k + 1 = nI (k + 1) from nI_1 k) (by decide) rfl (fun ls hl => ?_)
                refine lv_goto (tgt := 78) hx hb dX12_tries_243 (by decide) ?_
                exact ih (k + 1) u_69 u_70 _ _ _ (by omega) (by omega) hf_71 (hP.sub [0, 1, 2, 3, 4, 5, 6, 7, 8] rfl) (hD.sub [0, 1, 2, 3, 4, 5, 6, 7, 8] (by decide) rfl) hS (lv_sub hl [3, 4, 5, 6, 7, 8, 9, 0] rfl)
              · refine lv_goto (tgt := 240) hx hb dX12_tries_180 (by decide) ?_
                refine lv_iinc (v := (nI (k + 1))) (lv' := [(8, .int (nI (k + 1))), (10, .int x_18), (9, .int x_18), (0, .ref h0), (1, .int (nI cr)), (2, .int (nI po)), (3, .int da), (4, .int (nI se_)), (5, .int (nI ro)), (6, .int co_)]) hx hb dX12_tries_240 hl (k := 9) rfl (show nI k + 1 = nI (k + 1) from nI_1 k) (by decide) rfl (fun ls hl => ?_)
                refine lv_goto (tgt := 78) hx hb dX12_tries_243 (by decide) ?_
                exact ih (k + 1) a_least a_order _ _ _ (by omega) (by omega) hI_order (hP.sub [0, 1, 2, 3, 4, 5, 6, 7, 8] rfl) (hD.sub [0, 1, 2, 3, 4, 5, 6, 7, 8] (by decide) rfl) hS (lv_sub hl [3, 4, 5, 6, 7, 8, 9, 0] rfl)
          · refine lv_iconst (v := 0) hx hb dX12_tries_134 (by decide) ?_
            refine lv_goto (tgt := 139) hx hb dX12_tries_135 (by decide) ?_
            refine lv_iadd hx hb dX12_tries_139 ?_
            refine lv_topi (fun x_72 ex_72 => ?_)
            refine lv_istore (lv' := [(9, .int x_72), (0, .ref h0), (1, .int (nI cr)), (2, .int (nI po)), (3, .int da), (4, .int (nI se_)), (5, .int (nI ro)), (6, .int co_), (8, .int (nI k))]) hx hb dX12_tries_140 hl (by decide) rfl (fun ls hl => ?_)
            refine lv_iload hx hb dX12_tries_142 (lv_at hl 0 rfl) ?_
            refine lv_aload_n hx hb dX12_tries_144 rfl (lv_at hl 1 rfl) ?_
            refine va_get (D := E.1) (ci := 12) (v := .ref (q 45)) (C := RX12) (T := TX12) (N := 59) hx hb hts inX12 hown hK hP 0 rfl rfl 45 (by decide) fl115 (fun _ h9 => h9) rfl dX12_tries_145 ?_
            refine lv_iload hx hb dX12_tries_148 (lv_at hl 8 rfl) ?_
            refine va_iald hx hb hK hP 7 0 rfl rfl hi_6 dX12_tries_150 ?_
            refine lv_topi (fun x_73 ex_73 => ?_)
            refine lv_icmp_le (tgt := 159) hx hb dX12_tries_151 (by decide) (fun c_74 => ?_) (fun c_74 => ?_)
            · refine lv_aload_n hx hb dX12_tries_159 rfl (lv_at hl 1 rfl) ?_
              refine va_get (D := E.1) (ci := 12) (v := .ref (q 45)) (C := RX12) (T := TX12) (N := 59) hx hb hts inX12 hown hK hP 0 rfl rfl 45 (by decide) fl115 (fun _ h9 => h9) rfl dX12_tries_160 ?_
              refine lv_iload hx hb dX12_tries_163 (lv_at hl 8 rfl) ?_
              refine va_iald hx hb hK hP 7 0 rfl rfl hi_6 dX12_tries_165 ?_
              refine lv_topi (fun x_75 ex_75 => ?_)
              refine lv_istore (lv' := [(10, .int x_75), (9, .int x_72), (0, .ref h0), (1, .int (nI cr)), (2, .int (nI po)), (3, .int da), (4, .int (nI se_)), (5, .int (nI ro)), (6, .int co_), (8, .int (nI k))]) hx hb dX12_tries_166 hl (by decide) rfl (fun ls hl => ?_)
              refine lv_iload hx hb dX12_tries_168 (lv_at hl 0 rfl) ?_
              refine lv_aload_n hx hb dX12_tries_170 rfl (lv_at hl 2 rfl) ?_
              refine va_get (D := E.1) (ci := 12) (v := .ref (q 46)) (C := RX12) (T := TX12) (N := 59) hx hb hts inX12 hown hK hP 0 rfl rfl 46 (by decide) fl118 (fun _ h9 => h9) rfl dX12_tries_171 ?_
              refine lv_iload hx hb dX12_tries_174 (lv_at hl 9 rfl) ?_
              refine va_iald hx hb hK hP 8 0 rfl rfl hi_6 dX12_tries_176 ?_
              refine lv_topi (fun x_76 ex_76 => ?_)
              refine lv_icmp_le (tgt := 183) hx hb dX12_tries_177 (by decide) (fun c_77 => ?_) (fun c_77 => ?_)
              · refine lv_aload_n hx hb dX12_tries_183 rfl (lv_at hl 2 rfl) ?_
                refine lv_iload_n hx hb dX12_tries_184 rfl (lv_at hl 3 rfl) ?_
                refine lv_aload_n hx hb dX12_tries_185 rfl (lv_at hl 2 rfl) ?_
                refine va_get (D := E.1) (ci := 12) (v := .ref (q 43)) (C := RX12) (T := TX12) (N := 59) hx hb hts inX12 hown hK hP 0 rfl rfl 43 (by decide) fl109 (fun _ h9 => h9) rfl dX12_tries_186 ?_
                refine lv_iload hx hb dX12_tries_189 (lv_at hl 9 rfl) ?_
                refine va_iald hx hb hK hP 5 0 rfl rfl hi_6 dX12_tries_191 ?_
                refine lv_topi (fun x_78 ex_78 => ?_)
                have hv_79 : inR x_78 0 9 = true := by rw [ex_78]; exact hI_dTo _ (vin_cl hi_6)
                obtain ⟨w_80, hw_81, ew_82⟩ := inR_nI (n := 9) (by decide) hv_79
                subst ew_82
                refine lv_iload hx hb dX12_tries_192 (lv_at hl 0 rfl) ?_
                refine lv_aload_n hx hb dX12_tries_194 rfl (lv_at hl 2 rfl) ?_
                refine va_get (D := E.1) (ci := 12) (v := .ref (q 44)) (C := RX12) (T := TX12) (N := 59) hx hb hts inX12 hown hK hP 0 rfl rfl 44 (by decide) fl112 (fun _ h9 => h9) rfl dX12_tries_195 ?_
                refine lv_iload hx hb dX12_tries_198 (lv_at hl 9 rfl) ?_
                refine va_iald hx hb hK hP 6 0 rfl rfl hi_6 dX12_tries_200 ?_
                refine lv_topi (fun x_83 ex_83 => ?_)
                refine lv_iadd hx hb dX12_tries_201 ?_
                refine lv_topi (fun x_84 ex_84 => ?_)
                refine lv_iload hx hb dX12_tries_202 (lv_at hl 6 rfl) ?_
                refine lv_iconst (v := 1) hx hb dX12_tries_204 (by decide) ?_
                refine lv_iload hx hb dX12_tries_205 (lv_at hl 9 rfl) ?_
                refine lv_ishl hx hb dX12_tries_207 ?_
                refine lv_topi (fun x_85 ex_85 => ?_)
                refine lv_ior hx hb dX12_tries_208 ?_
                refine lv_topi (fun x_86 ex_86 => ?_)
                obtain ⟨w_87, hw_88, hw_88b, hw_88e⟩ : ∃ w, w < 128 ∧ bc7 w = 3 + 1 ∧ x_86 = nI w := by rw [ex_86, ex_85]; exact tr_bit hse hlt hbc (by rw [ex_3, ex_2] at c_4; exact c_4)
                subst hw_88e
                refine lv_bipush (v := 8) hx hb dX12_tries_209 (by decide) ?_
                refine lv_iload hx hb dX12_tries_211 (lv_at hl 7 rfl) ?_
                refine lv_imul hx hb dX12_tries_213 ?_
                refine lv_topi (fun x_89 ex_89 => ?_)
                obtain rfl : x_89 = nI (8 * ro) := ex_89.trans (pk_mul 8 ro)
                refine lv_iload hx hb dX12_tries_214 (lv_at hl 9 rfl) ?_
                refine lv_iadd hx hb dX12_tries_216 ?_
                refine lv_topi (fun x_90 ex_90 => ?_)
                obtain rfl : x_90 = nI ((8 * ro) + k) := ex_90.trans (nI_add (8 * ro) k)
                refine lv_iload hx hb dX12_tries_217 (lv_at hl 8 rfl) ?_
                refine lv_aload_n hx hb dX12_tries_219 rfl (lv_at hl 2 rfl) ?_
                refine va_get (D := E.1) (ci := 12) (v := .ref (q 49)) (C := RX12) (T := TX12) (N := 59) hx hb hts inX12 hown hK hP 0 rfl rfl 49 (by decide) fl127 (fun _ h9 => h9) rfl dX12_tries_220 ?_
                refine lv_bipush (v := 10) hx hb dX12_tries_223 (by decide) ?_
                refine lv_iload_n hx hb dX12_tries_225 rfl (lv_at hl 4 rfl) ?_
                refine lv_imul hx hb dX12_tries_226 ?_
                refine lv_topi (fun x_91 ex_91 => ?_)
                obtain rfl : x_91 = nI (10 * po) := ex_91.trans (pk_mul 10 po)
                refine lv_aload_n hx hb dX12_tries_227 rfl (lv_at hl 2 rfl) ?_
                refine va_get (D := E.1) (ci := 12) (v := .ref (q 42)) (C := RX12) (T := TX12) (N := 59) hx hb hts inX12 hown hK hP 0 rfl rfl 42 (by decide) fl106 (fun _ h9 => h9) rfl dX12_tries_228 ?_
                refine lv_iload hx hb dX12_tries_231 (lv_at hl 9 rfl) ?_
                refine va_iald hx hb hK hP 4 0 rfl rfl hi_6 dX12_tries_233 ?_
                refine lv_topi (fun x_92 ex_92 => ?_)
                obtain rfl : x_92 = nI w_9 := ex_92.trans ex_7.symm
                refine lv_iadd hx hb dX12_tries_234 ?_
                refine lv_topi (fun x_93 ex_93 => ?_)
                obtain rfl : x_93 = nI ((10 * po) + w_9) := ex_93.trans (nI_add (10 * po) w_9)
                refine va_iald hx hb hK hP 3 0 rfl rfl hi_13 dX12_tries_235 ?_
                refine lv_topi (fun x_94 ex_94 => ?_)
                refine lv_iadd hx hb dX12_tries_236 ?_
                refine lv_topi (fun x_95 ex_95 => ?_)
                have hPc := hP.sub (ws' := [(h0, .inr (12, mG q i_taped i_size i_sort i_what i_at i_end i_worth i_faultKind i_faultPlace i_got i_worked (nI dl) i_isPlanned i_bestDone i_bestCost)), (q 51, .inl (E.2.1 0, 512, .inl a_least)), (q 52, .inl (E.2.1 0, 512, .inl a_order)), (q 49, .inl (E.2.1 0, 100, .inl a_flights)), (q 42, .inl (E.2.1 0, 7, .inl a_dFrom)), (q 43, .inl (E.2.1 0, 7, .inl a_dTo)), (q 44, .inl (E.2.1 0, 7, .inl a_dDays)), (q 45, .inl (E.2.1 0, 7, .inl a_dFirst)), (q 46, .inl (E.2.1 0, 7, .inl a_dLast))]) [0, 1, 2, 3, 4, 5, 6, 7, 8] rfl
                have hDc := hD.sub (ws' := [(h0, .inr (12, mG q i_taped i_size i_sort i_what i_at i_end i_worth i_faultKind i_faultPlace i_got i_worked (nI dl) i_isPlanned i_bestDone i_bestCost)), (q 51, .inl (E.2.1 0, 512, .inl a_least)), (q 52, .inl (E.2.1 0, 512, .inl a_order)), (q 49, .inl (E.2.1 0, 100, .inl a_flights)), (q 42, .inl (E.2.1 0, 7, .inl a_dFrom)), (q 43, .inl (E.2.1 0, 7, .inl a_dTo)), (q 44, .inl (E.2.1 0, 7, .inl a_dDays)), (q 45, .inl (E.2.1 0, 7, .inl a_dFirst)), (q 46, .inl (E.2.1 0, 7, .inl a_dLast))]) [0, 1, 2, 3, 4, 5, 6, 7, 8] (by decide) rfl
                have hFc := va_free (wc := [(h0, .inr (12, mG q i_taped i_size i_sort i_what i_at i_end i_worth i_faultKind i_faultPlace i_got i_worked (nI dl) i_isPlanned i_bestDone i_bestCost)), (q 51, .inl (E.2.1 0, 512, .inl a_least)), (q 52, .inl (E.2.1 0, 512, .inl a_order)), (q 49, .inl (E.2.1 0, 100, .inl a_flights)), (q 42, .inl (E.2.1 0, 7, .inl a_dFrom)), (q 43, .inl (E.2.1 0, 7, .inl a_dTo)), (q 44, .inl (E.2.1 0, 7, .inl a_dDays)), (q 45, .inl (E.2.1 0, 7, .inl a_dFirst)), (q 46, .inl (E.2.1 0, 7, .inl a_dLast))]) hD hS hA [0, 1, 2, 3, 4, 5, 6, 7, 8] rfl
                refine va_callv (va_runV (As := [.int (nI cr), .int (nI w_80), .int x_84, .int (nI w_87), .int (nI ((8 * ro) + k)), .int x_95]) (rest := []) ⟨hx, hb, hml, hown, hts⟩ (c_X12_tries4 l E h0 q i_taped i_size i_sort i_what i_at i_end i_worth i_faultKind i_faultPlace i_got i_worked i_isPlanned i_bestDone i_bestCost dl cr w_80 w_87 ((8 * ro) + k) a_least a_order a_flights a_dFrom a_dTo a_dDays a_dFirst a_dLast x_84 x_95 H.size hcr (by omega) hw_88 hdl hw_88b (dg_step hro hlt) hI_order hI_dFrom hI_dTo) (cwV 6 hts gX12_tries_X12_tries rfl rfl rfl hdV_X12_tries ⟨Nat.le_of_ble_eq_true rfl, Nat.le_of_ble_eq_true rfl⟩) ⟨pcW_blind, va_recv hK hPc (ci := 12) (q0 := 0) rfl rfl, (pcW_pre hPc hkn hDc hst hS hFc)⟩ rfl rfl hl.1 rfl (lv_room (Nat.le_of_ble_eq_true rfl)) dX12_tries_237 ⟨Nat.le_of_ble_eq_true rfl, Nat.le_of_ble_eq_true rfl⟩) hS (fun q _ h => hFc q h) hFc (fun u t H1 locs ht hvm hw_97 hB hz1 hk1 hS => ?_)
                obtain ⟨u_98, u_99⟩ := u
                obtain ⟨hf_100, hP1, hD1⟩ := hB
                rw [ht] at hP1
                try dsimp only at hw_97
                obtain ⟨hP, hD⟩ := va_join (wr := []) (w1 := [(h0, .inr (12, mG q i_taped i_size i_sort i_what i_at i_end i_worth i_faultKind i_faultPlace i_got i_worked (nI dl) i_isPlanned i_bestDone i_bestCost)), (q 51, .inl (E.2.1 0, 512, .inl u_98)), (q 52, .inl (E.2.1 0, 512, .inl u_99)), (q 49, .inl (E.2.1 0, 100, .inl a_flights)), (q 42, .inl (E.2.1 0, 7, .inl a_dFrom)), (q 43, .inl (E.2.1 0, 7, .inl a_dTo)), (q 44, .inl (E.2.1 0, 7, .inl a_dDays)), (q 45, .inl (E.2.1 0, 7, .inl a_dFirst)), (q 46, .inl (E.2.1 0, 7, .inl a_dLast))]) hP hD [0, 1, 2, 3, 4, 5, 6, 7, 8] [] rfl rfl (by decide) (by decide) hk1 hFc hP1 hD1
                generalize H1 = H at hP hS ⊢
                have hP : va_P E.1 vwCl [(h0, .inr (12, mG q i_taped i_size i_sort i_what i_at i_end i_worth i_faultKind i_faultPlace i_got i_worked (nI dl) i_isPlanned i_bestDone i_bestCost)), (q 51, .inl (E.2.1 0, 512, .inl u_98)), (q 52, .inl (E.2.1 0, 512, .inl u_99)), (q 49, .inl (E.2.1 0, 100, .inl a_flights)), (q 42, .inl (E.2.1 0, 7, .inl a_dFrom)), (q 43, .inl (E.2.1 0, 7, .inl a_dTo)), (q 44, .inl (E.2.1 0, 7, .inl a_dDays)), (q 45, .inl (E.2.1 0, 7, .inl a_dFirst)), (q 46, .inl (E.2.1 0, 7, .inl a_dLast))] H := hP
                have hD : va_D A [(h0, .inr (12, mG q i_taped i_size i_sort i_what i_at i_end i_worth i_faultKind i_faultPlace i_got i_worked (nI dl) i_isPlanned i_bestDone i_bestCost)), (q 51, .inl (E.2.1 0, 512, .inl u_98)), (q 52, .inl (E.2.1 0, 512, .inl u_99)), (q 49, .inl (E.2.1 0, 100, .inl a_flights)), (q 42, .inl (E.2.1 0, 7, .inl a_dFrom)), (q 43, .inl (E.2.1 0, 7, .inl a_dTo)), (q 44, .inl (E.2.1 0, 7, .inl a_dDays)), (q 45, .inl (E.2.1 0, 7, .inl a_dFirst)), (q 46, .inl (E.2.1 0, 7, .inl a_dLast))] := hD
                refine lv_iinc (v := (nI (k + 1))) (lv' := [(8, .int (nI (k + 1))), (10, .int x_75), (9, .int x_72), (0, .ref h0), (1, .int (nI cr)), (2, .int (nI po)), (3, .int da), (4, .int (nI se_)), (5, .int (nI ro)), (6, .int co_)]) hx hb dX12_tries_240 hl (k := 9) rfl (show nI k + 1 = nI (k + 1) from nI_1 k) (by decide) rfl (fun ls hl => ?_)
                refine lv_goto (tgt := 78) hx hb dX12_tries_243 (by decide) ?_
                exact ih (k + 1) u_98 u_99 _ _ _ (by omega) (by omega) hf_100 (hP.sub [0, 1, 2, 3, 4, 5, 6, 7, 8] rfl) (hD.sub [0, 1, 2, 3, 4, 5, 6, 7, 8] (by decide) rfl) hS (lv_sub hl [3, 4, 5, 6, 7, 8, 9, 0] rfl)
              · refine lv_goto (tgt := 240) hx hb dX12_tries_180 (by decide) ?_
                refine lv_iinc (v := (nI (k + 1))) (lv' := [(8, .int (nI (k + 1))), (10, .int x_75), (9, .int x_72), (0, .ref h0), (1, .int (nI cr)), (2, .int (nI po)), (3, .int da), (4, .int (nI se_)), (5, .int (nI ro)), (6, .int co_)]) hx hb dX12_tries_240 hl (k := 9) rfl (show nI k + 1 = nI (k + 1) from nI_1 k) (by decide) rfl (fun ls hl => ?_)
                refine lv_goto (tgt := 78) hx hb dX12_tries_243 (by decide) ?_
                exact ih (k + 1) a_least a_order _ _ _ (by omega) (by omega) hI_order (hP.sub [0, 1, 2, 3, 4, 5, 6, 7, 8] rfl) (hD.sub [0, 1, 2, 3, 4, 5, 6, 7, 8] (by decide) rfl) hS (lv_sub hl [3, 4, 5, 6, 7, 8, 9, 0] rfl)
            · refine lv_iload hx hb dX12_tries_154 (lv_at hl 0 rfl) ?_
              refine lv_goto (tgt := 166) hx hb dX12_tries_156 (by decide) ?_
              refine lv_istore (lv' := [(10, .int x_72), (9, .int x_72), (0, .ref h0), (1, .int (nI cr)), (2, .int (nI po)), (3, .int da), (4, .int (nI se_)), (5, .int (nI ro)), (6, .int co_), (8, .int (nI k))]) hx hb dX12_tries_166 hl (by decide) rfl (fun ls hl => ?_)
              refine lv_iload hx hb dX12_tries_168 (lv_at hl 0 rfl) ?_
              refine lv_aload_n hx hb dX12_tries_170 rfl (lv_at hl 2 rfl) ?_
              refine va_get (D := E.1) (ci := 12) (v := .ref (q 46)) (C := RX12) (T := TX12) (N := 59) hx hb hts inX12 hown hK hP 0 rfl rfl 46 (by decide) fl118 (fun _ h9 => h9) rfl dX12_tries_171 ?_
              refine lv_iload hx hb dX12_tries_174 (lv_at hl 9 rfl) ?_
              refine va_iald hx hb hK hP 8 0 rfl rfl hi_6 dX12_tries_176 ?_
              refine lv_topi (fun x_101 ex_101 => ?_)
              refine lv_icmp_le (tgt := 183) hx hb dX12_tries_177 (by decide) (fun c_102 => ?_) (fun c_102 => ?_)
              · refine lv_aload_n hx hb dX12_tries_183 rfl (lv_at hl 2 rfl) ?_
                refine lv_iload_n hx hb dX12_tries_184 rfl (lv_at hl 3 rfl) ?_
                refine lv_aload_n hx hb dX12_tries_185 rfl (lv_at hl 2 rfl) ?_
                refine va_get (D := E.1) (ci := 12) (v := .ref (q 43)) (C := RX12) (T := TX12) (N := 59) hx hb hts inX12 hown hK hP 0 rfl rfl 43 (by decide) fl109 (fun _ h9 => h9) rfl dX12_tries_186 ?_
                refine lv_iload hx hb dX12_tries_189 (lv_at hl 9 rfl) ?_
                refine va_iald hx hb hK hP 5 0 rfl rfl hi_6 dX12_tries_191 ?_
                refine lv_topi (fun x_103 ex_103 => ?_)
                have hv_104 : inR x_103 0 9 = true := by rw [ex_103]; exact hI_dTo _ (vin_cl hi_6)
                obtain ⟨w_105, hw_106, ew_107⟩ := inR_nI (n := 9) (by decide) hv_104
                subst ew_107
                refine lv_iload hx hb dX12_tries_192 (lv_at hl 0 rfl) ?_
                refine lv_aload_n hx hb dX12_tries_194 rfl (lv_at hl 2 rfl) ?_
                refine va_get (D := E.1) (ci := 12) (v := .ref (q 44)) (C := RX12) (T := TX12) (N := 59) hx hb hts inX12 hown hK hP 0 rfl rfl 44 (by decide) fl112 (fun _ h9 => h9) rfl dX12_tries_195 ?_
                refine lv_iload hx hb dX12_tries_198 (lv_at hl 9 rfl) ?_
                refine va_iald hx hb hK hP 6 0 rfl rfl hi_6 dX12_tries_200 ?_
                refine lv_topi (fun x_108 ex_108 => ?_)
                refine lv_iadd hx hb dX12_tries_201 ?_
                refine lv_topi (fun x_109 ex_109 => ?_)
                refine lv_iload hx hb dX12_tries_202 (lv_at hl 6 rfl) ?_
                refine lv_iconst (v := 1) hx hb dX12_tries_204 (by decide) ?_
                refine lv_iload hx hb dX12_tries_205 (lv_at hl 9 rfl) ?_
                refine lv_ishl hx hb dX12_tries_207 ?_
                refine lv_topi (fun x_110 ex_110 => ?_)
                refine lv_ior hx hb dX12_tries_208 ?_
                refine lv_topi (fun x_111 ex_111 => ?_)
                obtain ⟨w_112, hw_113, hw_113b, hw_113e⟩ : ∃ w, w < 128 ∧ bc7 w = 3 + 1 ∧ x_111 = nI w := by rw [ex_111, ex_110]; exact tr_bit hse hlt hbc (by rw [ex_3, ex_2] at c_4; exact c_4)
                subst hw_113e
                refine lv_bipush (v := 8) hx hb dX12_tries_209 (by decide) ?_
                refine lv_iload hx hb dX12_tries_211 (lv_at hl 7 rfl) ?_
                refine lv_imul hx hb dX12_tries_213 ?_
                refine lv_topi (fun x_114 ex_114 => ?_)
                obtain rfl : x_114 = nI (8 * ro) := ex_114.trans (pk_mul 8 ro)
                refine lv_iload hx hb dX12_tries_214 (lv_at hl 9 rfl) ?_
                refine lv_iadd hx hb dX12_tries_216 ?_
                refine lv_topi (fun x_115 ex_115 => ?_)
                obtain rfl : x_115 = nI ((8 * ro) + k) := ex_115.trans (nI_add (8 * ro) k)
                refine lv_iload hx hb dX12_tries_217 (lv_at hl 8 rfl) ?_
                refine lv_aload_n hx hb dX12_tries_219 rfl (lv_at hl 2 rfl) ?_
                refine va_get (D := E.1) (ci := 12) (v := .ref (q 49)) (C := RX12) (T := TX12) (N := 59) hx hb hts inX12 hown hK hP 0 rfl rfl 49 (by decide) fl127 (fun _ h9 => h9) rfl dX12_tries_220 ?_
                refine lv_bipush (v := 10) hx hb dX12_tries_223 (by decide) ?_
                refine lv_iload_n hx hb dX12_tries_225 rfl (lv_at hl 4 rfl) ?_
                refine lv_imul hx hb dX12_tries_226 ?_
                refine lv_topi (fun x_116 ex_116 => ?_)
                obtain rfl : x_116 = nI (10 * po) := ex_116.trans (pk_mul 10 po)
                refine lv_aload_n hx hb dX12_tries_227 rfl (lv_at hl 2 rfl) ?_
                refine va_get (D := E.1) (ci := 12) (v := .ref (q 42)) (C := RX12) (T := TX12) (N := 59) hx hb hts inX12 hown hK hP 0 rfl rfl 42 (by decide) fl106 (fun _ h9 => h9) rfl dX12_tries_228 ?_
                refine lv_iload hx hb dX12_tries_231 (lv_at hl 9 rfl) ?_
                refine va_iald hx hb hK hP 4 0 rfl rfl hi_6 dX12_tries_233 ?_
                refine lv_topi (fun x_117 ex_117 => ?_)
                obtain rfl : x_117 = nI w_9 := ex_117.trans ex_7.symm
                refine lv_iadd hx hb dX12_tries_234 ?_
                refine lv_topi (fun x_118 ex_118 => ?_)
                obtain rfl : x_118 = nI ((10 * po) + w_9) := ex_118.trans (nI_add (10 * po) w_9)
                refine va_iald hx hb hK hP 3 0 rfl rfl hi_13 dX12_tries_235 ?_
                refine lv_topi (fun x_119 ex_119 => ?_)
                refine lv_iadd hx hb dX12_tries_236 ?_
                refine lv_topi (fun x_120 ex_120 => ?_)
                have hPc := hP.sub (ws' := [(h0, .inr (12, mG q i_taped i_size i_sort i_what i_at i_end i_worth i_faultKind i_faultPlace i_got i_worked (nI dl) i_isPlanned i_bestDone i_bestCost)), (q 51, .inl (E.2.1 0, 512, .inl a_least)), (q 52, .inl (E.2.1 0, 512, .inl a_order)), (q 49, .inl (E.2.1 0, 100, .inl a_flights)), (q 42, .inl (E.2.1 0, 7, .inl a_dFrom)), (q 43, .inl (E.2.1 0, 7, .inl a_dTo)), (q 44, .inl (E.2.1 0, 7, .inl a_dDays)), (q 45, .inl (E.2.1 0, 7, .inl a_dFirst)), (q 46, .inl (E.2.1 0, 7, .inl a_dLast))]) [0, 1, 2, 3, 4, 5, 6, 7, 8] rfl
                have hDc := hD.sub (ws' := [(h0, .inr (12, mG q i_taped i_size i_sort i_what i_at i_end i_worth i_faultKind i_faultPlace i_got i_worked (nI dl) i_isPlanned i_bestDone i_bestCost)), (q 51, .inl (E.2.1 0, 512, .inl a_least)), (q 52, .inl (E.2.1 0, 512, .inl a_order)), (q 49, .inl (E.2.1 0, 100, .inl a_flights)), (q 42, .inl (E.2.1 0, 7, .inl a_dFrom)), (q 43, .inl (E.2.1 0, 7, .inl a_dTo)), (q 44, .inl (E.2.1 0, 7, .inl a_dDays)), (q 45, .inl (E.2.1 0, 7, .inl a_dFirst)), (q 46, .inl (E.2.1 0, 7, .inl a_dLast))]) [0, 1, 2, 3, 4, 5, 6, 7, 8] (by decide) rfl
                have hFc := va_free (wc := [(h0, .inr (12, mG q i_taped i_size i_sort i_what i_at i_end i_worth i_faultKind i_faultPlace i_got i_worked (nI dl) i_isPlanned i_bestDone i_bestCost)), (q 51, .inl (E.2.1 0, 512, .inl a_least)), (q 52, .inl (E.2.1 0, 512, .inl a_order)), (q 49, .inl (E.2.1 0, 100, .inl a_flights)), (q 42, .inl (E.2.1 0, 7, .inl a_dFrom)), (q 43, .inl (E.2.1 0, 7, .inl a_dTo)), (q 44, .inl (E.2.1 0, 7, .inl a_dDays)), (q 45, .inl (E.2.1 0, 7, .inl a_dFirst)), (q 46, .inl (E.2.1 0, 7, .inl a_dLast))]) hD hS hA [0, 1, 2, 3, 4, 5, 6, 7, 8] rfl
                refine va_callv (va_runV (As := [.int (nI cr), .int (nI w_105), .int x_109, .int (nI w_112), .int (nI ((8 * ro) + k)), .int x_120]) (rest := []) ⟨hx, hb, hml, hown, hts⟩ (c_X12_tries4 l E h0 q i_taped i_size i_sort i_what i_at i_end i_worth i_faultKind i_faultPlace i_got i_worked i_isPlanned i_bestDone i_bestCost dl cr w_105 w_112 ((8 * ro) + k) a_least a_order a_flights a_dFrom a_dTo a_dDays a_dFirst a_dLast x_109 x_120 H.size hcr (by omega) hw_113 hdl hw_113b (dg_step hro hlt) hI_order hI_dFrom hI_dTo) (cwV 6 hts gX12_tries_X12_tries rfl rfl rfl hdV_X12_tries ⟨Nat.le_of_ble_eq_true rfl, Nat.le_of_ble_eq_true rfl⟩) ⟨pcW_blind, va_recv hK hPc (ci := 12) (q0 := 0) rfl rfl, (pcW_pre hPc hkn hDc hst hS hFc)⟩ rfl rfl hl.1 rfl (lv_room (Nat.le_of_ble_eq_true rfl)) dX12_tries_237 ⟨Nat.le_of_ble_eq_true rfl, Nat.le_of_ble_eq_true rfl⟩) hS (fun q _ h => hFc q h) hFc (fun u t H1 locs ht hvm hw_122 hB hz1 hk1 hS => ?_)
                obtain ⟨u_123, u_124⟩ := u
                obtain ⟨hf_125, hP1, hD1⟩ := hB
                rw [ht] at hP1
                try dsimp only at hw_122
                obtain ⟨hP, hD⟩ := va_join (wr := []) (w1 := [(h0, .inr (12, mG q i_taped i_size i_sort i_what i_at i_end i_worth i_faultKind i_faultPlace i_got i_worked (nI dl) i_isPlanned i_bestDone i_bestCost)), (q 51, .inl (E.2.1 0, 512, .inl u_123)), (q 52, .inl (E.2.1 0, 512, .inl u_124)), (q 49, .inl (E.2.1 0, 100, .inl a_flights)), (q 42, .inl (E.2.1 0, 7, .inl a_dFrom)), (q 43, .inl (E.2.1 0, 7, .inl a_dTo)), (q 44, .inl (E.2.1 0, 7, .inl a_dDays)), (q 45, .inl (E.2.1 0, 7, .inl a_dFirst)), (q 46, .inl (E.2.1 0, 7, .inl a_dLast))]) hP hD [0, 1, 2, 3, 4, 5, 6, 7, 8] [] rfl rfl (by decide) (by decide) hk1 hFc hP1 hD1
                generalize H1 = H at hP hS ⊢
                have hP : va_P E.1 vwCl [(h0, .inr (12, mG q i_taped i_size i_sort i_what i_at i_end i_worth i_faultKind i_faultPlace i_got i_worked (nI dl) i_isPlanned i_bestDone i_bestCost)), (q 51, .inl (E.2.1 0, 512, .inl u_123)), (q 52, .inl (E.2.1 0, 512, .inl u_124)), (q 49, .inl (E.2.1 0, 100, .inl a_flights)), (q 42, .inl (E.2.1 0, 7, .inl a_dFrom)), (q 43, .inl (E.2.1 0, 7, .inl a_dTo)), (q 44, .inl (E.2.1 0, 7, .inl a_dDays)), (q 45, .inl (E.2.1 0, 7, .inl a_dFirst)), (q 46, .inl (E.2.1 0, 7, .inl a_dLast))] H := hP
                have hD : va_D A [(h0, .inr (12, mG q i_taped i_size i_sort i_what i_at i_end i_worth i_faultKind i_faultPlace i_got i_worked (nI dl) i_isPlanned i_bestDone i_bestCost)), (q 51, .inl (E.2.1 0, 512, .inl u_123)), (q 52, .inl (E.2.1 0, 512, .inl u_124)), (q 49, .inl (E.2.1 0, 100, .inl a_flights)), (q 42, .inl (E.2.1 0, 7, .inl a_dFrom)), (q 43, .inl (E.2.1 0, 7, .inl a_dTo)), (q 44, .inl (E.2.1 0, 7, .inl a_dDays)), (q 45, .inl (E.2.1 0, 7, .inl a_dFirst)), (q 46, .inl (E.2.1 0, 7, .inl a_dLast))] := hD
                refine lv_iinc (v := (nI (k + 1))) (lv' := [(8, .int (nI (k + 1))), (10, .int x_72), (9, .int x_72), (0, .ref h0), (1, .int (nI cr)), (2, .int (nI po)), (3, .int da), (4, .int (nI se_)), (5, .int (nI ro)), (6, .int co_)]) hx hb dX12_tries_240 hl (k := 9) rfl (show nI k + 1 = nI (k + 1) from nI_1 k) (by decide) rfl (fun ls hl => ?_)
                refine lv_goto (tgt := 78) hx hb dX12_tries_243 (by decide) ?_
                exact ih (k + 1) u_123 u_124 _ _ _ (by omega) (by omega) hf_125 (hP.sub [0, 1, 2, 3, 4, 5, 6, 7, 8] rfl) (hD.sub [0, 1, 2, 3, 4, 5, 6, 7, 8] (by decide) rfl) hS (lv_sub hl [3, 4, 5, 6, 7, 8, 9, 0] rfl)
              · refine lv_goto (tgt := 240) hx hb dX12_tries_180 (by decide) ?_
                refine lv_iinc (v := (nI (k + 1))) (lv' := [(8, .int (nI (k + 1))), (10, .int x_72), (9, .int x_72), (0, .ref h0), (1, .int (nI cr)), (2, .int (nI po)), (3, .int da), (4, .int (nI se_)), (5, .int (nI ro)), (6, .int co_)]) hx hb dX12_tries_240 hl (k := 9) rfl (show nI k + 1 = nI (k + 1) from nI_1 k) (by decide) rfl (fun ls hl => ?_)
                refine lv_goto (tgt := 78) hx hb dX12_tries_243 (by decide) ?_
                exact ih (k + 1) a_least a_order _ _ _ (by omega) (by omega) hI_order (hP.sub [0, 1, 2, 3, 4, 5, 6, 7, 8] rfl) (hD.sub [0, 1, 2, 3, 4, 5, 6, 7, 8] (by decide) rfl) hS (lv_sub hl [3, 4, 5, 6, 7, 8, 9, 0] rfl)
        · refine lv_goto (tgt := 240) hx hb dX12_tries_119 (by decide) ?_
          refine lv_iinc (v := (nI (k + 1))) (lv' := [(8, .int (nI (k + 1))), (0, .ref h0), (1, .int (nI cr)), (2, .int (nI po)), (3, .int da), (4, .int (nI se_)), (5, .int (nI ro)), (6, .int co_)]) hx hb dX12_tries_240 hl (k := 7) rfl (show nI k + 1 = nI (k + 1) from nI_1 k) (by decide) rfl (fun ls hl => ?_)
          refine lv_goto (tgt := 78) hx hb dX12_tries_243 (by decide) ?_
          exact ih (k + 1) a_least a_order _ _ _ (by omega) (by omega) hI_order (hP.sub [0, 1, 2, 3, 4, 5, 6, 7, 8] rfl) (hD.sub [0, 1, 2, 3, 4, 5, 6, 7, 8] (by decide) rfl) hS (lv_sub hl [1, 2, 3, 4, 5, 6, 7, 0] rfl)
set_option maxHeartbeats 4000000 in
set_option maxRecDepth 100000 in
theorem c_X12_tries3 (l : Launch) (E : vE) (h0 : Nat) (q : Nat → Nat) (i_taped : Int32) (i_size : Int32) (i_sort : Int32) (i_what : Int32) (i_at : Int32) (i_end : Int32) (i_worth : Int32) (i_faultKind : Int32) (i_faultPlace : Int32) (i_got : Int32) (i_worked : Int32) (i_isPlanned : Int32) (i_bestDone : Int32) (i_bestCost : Int32) (dl : Nat) (cr : Nat) (po : Nat) (se_ : Nat) (ro : Nat) (a_least : Nat → Int32) (a_order : Nat → Int32) (a_flights : Nat → Int32) (a_dFrom : Nat → Int32) (a_dTo : Nat → Int32) (a_dDays : Nat → Int32) (a_dFirst : Nat → Int32) (a_dLast : Nat → Int32) (da : Int32) (co_ : Int32) (sz : Nat) (hcr : cr < 4) (hpo : po ≤ 9) (hse : se_ < 128) (hdl : dl ≤ 7) (hbc : bc7 se_ = 3) (hro : dg ro 3) (hI_order : ∀ k : Nat, k < 512 → digOK (a_order k)) (hI_dFrom : ∀ k : Nat, k < 7 → inR (a_dFrom k) 0 9 = true) (hI_dTo : ∀ k : Nat, k < 7 → inR (a_dTo k) 0 9 = true) : Met l yX12_tries wsX12_tries ({ frames := 4, cells := 0, slots := 0, locals := 120 }) (pcW E [.ref h0, .int (nI cr), .int (nI po), .int da, .int (nI se_), .int (nI ro), .int co_] sz [(h0, .inr (12, mG q i_taped i_size i_sort i_what i_at i_end i_worth i_faultKind i_faultPlace i_got i_worked (nI dl) i_isPlanned i_bestDone i_bestCost)), (q 51, .inl (E.2.1 0, 512, .inl a_least)), (q 52, .inl (E.2.1 0, 512, .inl a_order)), (q 49, .inl (E.2.1 0, 100, .inl a_flights)), (q 42, .inl (E.2.1 0, 7, .inl a_dFrom)), (q 43, .inl (E.2.1 0, 7, .inl a_dTo)), (q 44, .inl (E.2.1 0, 7, .inl a_dDays)), (q 45, .inl (E.2.1 0, 7, .inl a_dFirst)), (q 46, .inl (E.2.1 0, 7, .inl a_dLast))]) (va_Qv (fun (u : (Nat → Int32) × (Nat → Int32)) => match u with | (b_least, b_order) => True) (fun (u : (Nat → Int32) × (Nat → Int32)) (t : State) => match u with | (b_least, b_order) => (∀ k : Nat, k < 512 → digOK (b_order k)) ∧ wB E (va_A [(h0, .inr (12, mG q i_taped i_size i_sort i_what i_at i_end i_worth i_faultKind i_faultPlace i_got i_worked (nI dl) i_isPlanned i_bestDone i_bestCost)), (q 51, .inl (E.2.1 0, 512, .inl a_least)), (q 52, .inl (E.2.1 0, 512, .inl a_order)), (q 49, .inl (E.2.1 0, 100, .inl a_flights)), (q 42, .inl (E.2.1 0, 7, .inl a_dFrom)), (q 43, .inl (E.2.1 0, 7, .inl a_dTo)), (q 44, .inl (E.2.1 0, 7, .inl a_dDays)), (q 45, .inl (E.2.1 0, 7, .inl a_dFirst)), (q 46, .inl (E.2.1 0, 7, .inl a_dLast))] sz) [(h0, .inr (12, mG q i_taped i_size i_sort i_what i_at i_end i_worth i_faultKind i_faultPlace i_got i_worked (nI dl) i_isPlanned i_bestDone i_bestCost)), (q 51, .inl (E.2.1 0, 512, .inl b_least)), (q 52, .inl (E.2.1 0, 512, .inl b_order)), (q 49, .inl (E.2.1 0, 100, .inl a_flights)), (q 42, .inl (E.2.1 0, 7, .inl a_dFrom)), (q 43, .inl (E.2.1 0, 7, .inl a_dTo)), (q 44, .inl (E.2.1 0, 7, .inl a_dDays)), (q 45, .inl (E.2.1 0, 7, .inl a_dFirst)), (q 46, .inl (E.2.1 0, 7, .inl a_dLast))] t) (va_A [(h0, .inr (12, mG q i_taped i_size i_sort i_what i_at i_end i_worth i_faultKind i_faultPlace i_got i_worked (nI dl) i_isPlanned i_bestDone i_bestCost)), (q 51, .inl (E.2.1 0, 512, .inl a_least)), (q 52, .inl (E.2.1 0, 512, .inl a_order)), (q 49, .inl (E.2.1 0, 100, .inl a_flights)), (q 42, .inl (E.2.1 0, 7, .inl a_dFrom)), (q 43, .inl (E.2.1 0, 7, .inl a_dTo)), (q 44, .inl (E.2.1 0, 7, .inl a_dDays)), (q 45, .inl (E.2.1 0, 7, .inl a_dFirst)), (q 46, .inl (E.2.1 0, 7, .inl a_dLast))] sz)) 0 0 (va_A [(h0, .inr (12, mG q i_taped i_size i_sort i_what i_at i_end i_worth i_faultKind i_faultPlace i_got i_worked (nI dl) i_isPlanned i_bestDone i_bestCost)), (q 51, .inl (E.2.1 0, 512, .inl a_least)), (q 52, .inl (E.2.1 0, 512, .inl a_order)), (q 49, .inl (E.2.1 0, 100, .inl a_flights)), (q 42, .inl (E.2.1 0, 7, .inl a_dFrom)), (q 43, .inl (E.2.1 0, 7, .inl a_dTo)), (q 44, .inl (E.2.1 0, 7, .inl a_dDays)), (q 45, .inl (E.2.1 0, 7, .inl a_dFirst)), (q 46, .inl (E.2.1 0, 7, .inl a_dLast))] sz) := by
  refine Met.ofW (cc := cX12_tries) (maxL := 11) (ret := none) (by decide) rfl ?_
  intro p e s m args below meth c s₁ B hml hv
  obtain ⟨rfl, hsz, hP, hkn, hD0, hst⟩ := hv
  have hx := B.exec
  have hb := B.bytes
  have hr := B.returns
  have hts := atoms_spec (ws := wsX12_tries) B.pre
  have hown : s.vm.findClass RX12 = some m.cls := findClass_of_methodNamed B.named
  have hlocks := B.notSynchronized
  subst hsz
  have hD := hD0.self (sz := s.heap.size)
  have hK := hkn.1
  have hAO := hkn.2.2.1
  generalize hAe : va_A [(h0, .inr (12, mG q i_taped i_size i_sort i_what i_at i_end i_worth i_faultKind i_faultPlace i_got i_worked (nI dl) i_isPlanned i_bestDone i_bestCost)), (q 51, .inl (E.2.1 0, 512, .inl a_least)), (q 52, .inl (E.2.1 0, 512, .inl a_order)), (q 49, .inl (E.2.1 0, 100, .inl a_flights)), (q 42, .inl (E.2.1 0, 7, .inl a_dFrom)), (q 43, .inl (E.2.1 0, 7, .inl a_dTo)), (q 44, .inl (E.2.1 0, 7, .inl a_dDays)), (q 45, .inl (E.2.1 0, 7, .inl a_dFirst)), (q 46, .inl (E.2.1 0, 7, .inl a_dLast))] s.heap.size = A at hD hst ⊢
  have hA : ∀ q : Nat, s.heap.size ≤ q → A q := fun q h => by rw [← hAe]; exact Or.inr h
  have hS : va_S A s.heap s.heap [] := va_S.rf
  have hP : va_P E.1 vwCl [(h0, .inr (12, mG q i_taped i_size i_sort i_what i_at i_end i_worth i_faultKind i_faultPlace i_got i_worked (nI dl) i_isPlanned i_bestDone i_bestCost)), (q 51, .inl (E.2.1 0, 512, .inl a_least)), (q 52, .inl (E.2.1 0, 512, .inl a_order)), (q 49, .inl (E.2.1 0, 100, .inl a_flights)), (q 42, .inl (E.2.1 0, 7, .inl a_dFrom)), (q 43, .inl (E.2.1 0, 7, .inl a_dTo)), (q 44, .inl (E.2.1 0, 7, .inl a_dDays)), (q 45, .inl (E.2.1 0, 7, .inl a_dFirst)), (q 46, .inl (E.2.1 0, 7, .inl a_dLast))] s.heap := hP
  have hl := lv_entry ([.ref h0, .int (nI cr), .int (nI po), .int da, .int (nI se_), .int (nI ro), .int co_]) (n := 11) (Nat.le_of_ble_eq_true rfl)
  rw [lg_entry_eq]
  generalize (lg_sl ([.ref h0, .int (nI cr), .int (nI po), .int da, .int (nI se_), .int (nI ro), .int co_]) ++ List.replicate (11 - (lg_sl ([.ref h0, .int (nI cr), .int (nI po), .int da, .int (nI se_), .int (nI ro), .int co_])).length) Slot.unset).toArray = ls at hl ⊢
  have hl : lv_has ls 11 [(0, .ref h0), (1, .int (nI cr)), (2, .int (nI po)), (3, .int da), (4, .int (nI se_)), (5, .int (nI ro)), (6, .int co_)] := hl
  have fl106 := hts (.fieldLink RX12 106 "BoatsHomeModel" "dFrom" "[I") (by first | exact List.mem_of_getElem? (i := 5) rfl | decide +kernel)
  have fl109 := hts (.fieldLink RX12 109 "BoatsHomeModel" "dTo" "[I") (by first | exact List.mem_of_getElem? (i := 8) rfl | decide +kernel)
  have fl112 := hts (.fieldLink RX12 112 "BoatsHomeModel" "dDays" "[I") (by first | exact List.mem_of_getElem? (i := 9) rfl | decide +kernel)
  have fl115 := hts (.fieldLink RX12 115 "BoatsHomeModel" "dFirst" "[I") (by first | exact List.mem_of_getElem? (i := 6) rfl | decide +kernel)
  have fl118 := hts (.fieldLink RX12 118 "BoatsHomeModel" "dLast" "[I") (by first | exact List.mem_of_getElem? (i := 7) rfl | decide +kernel)
  have fl127 := hts (.fieldLink RX12 127 "BoatsHomeModel" "flights" "[I") (by first | exact List.mem_of_getElem? (i := 4) rfl | decide +kernel)
  have fl130 := hts (.fieldLink RX12 130 "BoatsHomeModel" "least" "[I") (by first | exact List.mem_of_getElem? (i := 1) rfl | decide +kernel)
  have fl133 := hts (.fieldLink RX12 133 "BoatsHomeModel" "order" "[I") (by first | exact List.mem_of_getElem? (i := 2) rfl | decide +kernel)
  have fl289 := hts (.fieldLink RX12 289 "BoatsHomeModel" "deliveries" "I") (by first | exact List.mem_of_getElem? (i := 3) rfl | decide +kernel)
  have inX12 : ∀ w ∈ u_ws RX12 TX12 59, w ∈ wsX12_tries := by first | exact fun w h9 => (List.mem_cons_of_mem _ (List.mem_append_right _ h9)) | decide +kernel
  refine lv_sipush (v := 128) hx hb dX12_tries_0 (by decide) ?_
  refine lv_iload_n hx hb dX12_tries_3 rfl (lv_at hl 1 rfl) ?_
  refine lv_imul hx hb dX12_tries_4 ?_
  refine lv_topi (fun x_1 ex_1 => ?_)
  obtain rfl : x_1 = nI (128 * cr) := ex_1.trans (pk_mul 128 cr)
  refine lv_iload hx hb dX12_tries_5 (lv_at hl 4 rfl) ?_
  refine lv_iadd hx hb dX12_tries_7 ?_
  refine lv_topi (fun x_2 ex_2 => ?_)
  obtain rfl : x_2 = nI ((128 * cr) + se_) := ex_2.trans (nI_add (128 * cr) se_)
  refine lv_istore (lv' := [(7, .int (nI ((128 * cr) + se_))), (0, .ref h0), (1, .int (nI cr)), (2, .int (nI po)), (3, .int da), (4, .int (nI se_)), (5, .int (nI ro)), (6, .int co_)]) hx hb dX12_tries_8 hl (by decide) rfl (fun ls hl => ?_)
  refine lv_aload_n hx hb dX12_tries_10 rfl (lv_at hl 1 rfl) ?_
  refine va_get (D := E.1) (ci := 12) (v := .ref (q 51)) (C := RX12) (T := TX12) (N := 59) hx hb hts inX12 hown hK hP 0 rfl rfl 51 (by decide) fl130 (fun _ h9 => h9) rfl dX12_tries_11 ?_
  refine lv_iload hx hb dX12_tries_14 (lv_at hl 0 rfl) ?_
  have hi_3 : vp_in (nI ((128 * cr) + se_)) 512 := vp_in_nI (by omega) (by decide)
  refine va_iald hx hb hK hP 1 0 rfl rfl hi_3 dX12_tries_16 ?_
  refine lv_topi (fun x_4 ex_4 => ?_)
  refine lv_iconst (v := (-1)) hx hb dX12_tries_17 (by decide) ?_
  refine lv_icmp_eq (tgt := 57) hx hb dX12_tries_18 (by decide) (fun c_5 => ?_) (fun c_5 => ?_)
  · refine lv_aload_n hx hb dX12_tries_57 rfl (lv_at hl 1 rfl) ?_
    refine va_get (D := E.1) (ci := 12) (v := .ref (q 51)) (C := RX12) (T := TX12) (N := 59) hx hb hts inX12 hown hK hP 0 rfl rfl 51 (by decide) fl130 (fun _ h9 => h9) rfl dX12_tries_58 ?_
    refine lv_iload hx hb dX12_tries_61 (lv_at hl 0 rfl) ?_
    refine lv_iload hx hb dX12_tries_63 (lv_at hl 7 rfl) ?_
    refine va_iast hx hb hK hP hD hS 1 0 rfl rfl hi_3 dX12_tries_65 (fun H locs hP hD hS => ?_)
    have hP : va_P E.1 vwCl [(h0, .inr (12, mG q i_taped i_size i_sort i_what i_at i_end i_worth i_faultKind i_faultPlace i_got i_worked (nI dl) i_isPlanned i_bestDone i_bestCost)), (q 51, .inl (E.2.1 0, 512, .inl (upd a_least (nI ((128 * cr) + se_)).toNatClampNeg co_))), (q 52, .inl (E.2.1 0, 512, .inl a_order)), (q 49, .inl (E.2.1 0, 100, .inl a_flights)), (q 42, .inl (E.2.1 0, 7, .inl a_dFrom)), (q 43, .inl (E.2.1 0, 7, .inl a_dTo)), (q 44, .inl (E.2.1 0, 7, .inl a_dDays)), (q 45, .inl (E.2.1 0, 7, .inl a_dFirst)), (q 46, .inl (E.2.1 0, 7, .inl a_dLast))] H := hP
    have hD : va_D A [(h0, .inr (12, mG q i_taped i_size i_sort i_what i_at i_end i_worth i_faultKind i_faultPlace i_got i_worked (nI dl) i_isPlanned i_bestDone i_bestCost)), (q 51, .inl (E.2.1 0, 512, .inl (upd a_least (nI ((128 * cr) + se_)).toNatClampNeg co_))), (q 52, .inl (E.2.1 0, 512, .inl a_order)), (q 49, .inl (E.2.1 0, 100, .inl a_flights)), (q 42, .inl (E.2.1 0, 7, .inl a_dFrom)), (q 43, .inl (E.2.1 0, 7, .inl a_dTo)), (q 44, .inl (E.2.1 0, 7, .inl a_dDays)), (q 45, .inl (E.2.1 0, 7, .inl a_dFirst)), (q 46, .inl (E.2.1 0, 7, .inl a_dLast))] := hD
    obtain ⟨f_6, ef_6⟩ : ∃ g : Nat → Int32, g = upd a_least (nI ((128 * cr) + se_)).toNatClampNeg co_ := ⟨_, rfl⟩
    rw [← ef_6] at hP hD
    refine lv_aload_n hx hb dX12_tries_66 rfl (lv_at hl 1 rfl) ?_
    refine va_get (D := E.1) (ci := 12) (v := .ref (q 52)) (C := RX12) (T := TX12) (N := 59) hx hb hts inX12 hown hK hP 0 rfl rfl 52 (by decide) fl133 (fun _ h9 => h9) rfl dX12_tries_67 ?_
    refine lv_iload hx hb dX12_tries_70 (lv_at hl 0 rfl) ?_
    refine lv_iload hx hb dX12_tries_72 (lv_at hl 6 rfl) ?_
    refine va_iast hx hb hK hP hD hS 2 0 rfl rfl hi_3 dX12_tries_74 (fun H locs hP hD hS => ?_)
    have hP : va_P E.1 vwCl [(h0, .inr (12, mG q i_taped i_size i_sort i_what i_at i_end i_worth i_faultKind i_faultPlace i_got i_worked (nI dl) i_isPlanned i_bestDone i_bestCost)), (q 51, .inl (E.2.1 0, 512, .inl f_6)), (q 52, .inl (E.2.1 0, 512, .inl (upd a_order (nI ((128 * cr) + se_)).toNatClampNeg (nI ro)))), (q 49, .inl (E.2.1 0, 100, .inl a_flights)), (q 42, .inl (E.2.1 0, 7, .inl a_dFrom)), (q 43, .inl (E.2.1 0, 7, .inl a_dTo)), (q 44, .inl (E.2.1 0, 7, .inl a_dDays)), (q 45, .inl (E.2.1 0, 7, .inl a_dFirst)), (q 46, .inl (E.2.1 0, 7, .inl a_dLast))] H := hP
    have hD : va_D A [(h0, .inr (12, mG q i_taped i_size i_sort i_what i_at i_end i_worth i_faultKind i_faultPlace i_got i_worked (nI dl) i_isPlanned i_bestDone i_bestCost)), (q 51, .inl (E.2.1 0, 512, .inl f_6)), (q 52, .inl (E.2.1 0, 512, .inl (upd a_order (nI ((128 * cr) + se_)).toNatClampNeg (nI ro)))), (q 49, .inl (E.2.1 0, 100, .inl a_flights)), (q 42, .inl (E.2.1 0, 7, .inl a_dFrom)), (q 43, .inl (E.2.1 0, 7, .inl a_dTo)), (q 44, .inl (E.2.1 0, 7, .inl a_dDays)), (q 45, .inl (E.2.1 0, 7, .inl a_dFirst)), (q 46, .inl (E.2.1 0, 7, .inl a_dLast))] := hD
    obtain ⟨f_7, ef_7⟩ : ∃ g : Nat → Int32, g = upd a_order (nI ((128 * cr) + se_)).toNatClampNeg (nI ro) := ⟨_, rfl⟩
    rw [← ef_7] at hP hD
    have hI_8 : ∀ k : Nat, k < 512 → digOK (f_7 k) := by rw [ef_7]; exact all_upd (P := fun z => digOK z) hI_order (dg_OK hro (by decide))
    refine lv_iconst (v := 0) hx hb dX12_tries_75 (by decide) ?_
    refine lv_istore (lv' := [(8, .int 0), (7, .int (nI ((128 * cr) + se_))), (0, .ref h0), (1, .int (nI cr)), (2, .int (nI po)), (3, .int da), (4, .int (nI se_)), (5, .int (nI ro)), (6, .int co_)]) hx hb dX12_tries_76 hl (by decide) rfl (fun ls hl => ?_)
    have hPl := hP.sub (ws' := [(h0, .inr (12, mG q i_taped i_size i_sort i_what i_at i_end i_worth i_faultKind i_faultPlace i_got i_worked (nI dl) i_isPlanned i_bestDone i_bestCost)), (q 51, .inl (E.2.1 0, 512, .inl f_6)), (q 52, .inl (E.2.1 0, 512, .inl f_7)), (q 49, .inl (E.2.1 0, 100, .inl a_flights)), (q 42, .inl (E.2.1 0, 7, .inl a_dFrom)), (q 43, .inl (E.2.1 0, 7, .inl a_dTo)), (q 44, .inl (E.2.1 0, 7, .inl a_dDays)), (q 45, .inl (E.2.1 0, 7, .inl a_dFirst)), (q 46, .inl (E.2.1 0, 7, .inl a_dLast))]) [0, 1, 2, 3, 4, 5, 6, 7, 8] rfl
    have hDl := hD.sub (ws' := [(h0, .inr (12, mG q i_taped i_size i_sort i_what i_at i_end i_worth i_faultKind i_faultPlace i_got i_worked (nI dl) i_isPlanned i_bestDone i_bestCost)), (q 51, .inl (E.2.1 0, 512, .inl f_6)), (q 52, .inl (E.2.1 0, 512, .inl f_7)), (q 49, .inl (E.2.1 0, 100, .inl a_flights)), (q 42, .inl (E.2.1 0, 7, .inl a_dFrom)), (q 43, .inl (E.2.1 0, 7, .inl a_dTo)), (q 44, .inl (E.2.1 0, 7, .inl a_dDays)), (q 45, .inl (E.2.1 0, 7, .inl a_dFirst)), (q 46, .inl (E.2.1 0, 7, .inl a_dLast))]) [0, 1, 2, 3, 4, 5, 6, 7, 8] (by decide) rfl
    refine lm_tries3 E h0 q i_taped i_size i_sort i_what i_at i_end i_worth i_faultKind i_faultPlace i_got i_worked i_isPlanned i_bestDone i_bestCost dl cr po se_ ro da co_ a_flights a_dFrom a_dTo a_dDays a_dFirst a_dLast hx hb hml hown hts hkn hst hA (by omega) (by omega) (by omega) (by omega) hbc hro hI_dFrom hI_dTo (fun n_9 n_10 H locs ls hI_order hP hD hS hl => ?_) 9 0 f_6 f_7 _ _ _ (by omega) (by omega) hI_8 hPl hDl hS (lv_sub hl [2, 3, 4, 5, 6, 7, 8, 0] rfl)
    have hP : va_P E.1 vwCl [(h0, .inr (12, mG q i_taped i_size i_sort i_what i_at i_end i_worth i_faultKind i_faultPlace i_got i_worked (nI dl) i_isPlanned i_bestDone i_bestCost)), (q 51, .inl (E.2.1 0, 512, .inl n_9)), (q 52, .inl (E.2.1 0, 512, .inl n_10)), (q 49, .inl (E.2.1 0, 100, .inl a_flights)), (q 42, .inl (E.2.1 0, 7, .inl a_dFrom)), (q 43, .inl (E.2.1 0, 7, .inl a_dTo)), (q 44, .inl (E.2.1 0, 7, .inl a_dDays)), (q 45, .inl (E.2.1 0, 7, .inl a_dFirst)), (q 46, .inl (E.2.1 0, 7, .inl a_dLast))] H := hP
    have hD : va_D A [(h0, .inr (12, mG q i_taped i_size i_sort i_what i_at i_end i_worth i_faultKind i_faultPlace i_got i_worked (nI dl) i_isPlanned i_bestDone i_bestCost)), (q 51, .inl (E.2.1 0, 512, .inl n_9)), (q 52, .inl (E.2.1 0, 512, .inl n_10)), (q 49, .inl (E.2.1 0, 100, .inl a_flights)), (q 42, .inl (E.2.1 0, 7, .inl a_dFrom)), (q 43, .inl (E.2.1 0, 7, .inl a_dTo)), (q 44, .inl (E.2.1 0, 7, .inl a_dDays)), (q 45, .inl (E.2.1 0, 7, .inl a_dFirst)), (q 46, .inl (E.2.1 0, 7, .inl a_dLast))] := hD
    have hP9 := hP.sub (ws' := [(h0, .inr (12, mG q i_taped i_size i_sort i_what i_at i_end i_worth i_faultKind i_faultPlace i_got i_worked (nI dl) i_isPlanned i_bestDone i_bestCost)), (q 51, .inl (E.2.1 0, 512, .inl n_9)), (q 52, .inl (E.2.1 0, 512, .inl n_10)), (q 49, .inl (E.2.1 0, 100, .inl a_flights)), (q 42, .inl (E.2.1 0, 7, .inl a_dFrom)), (q 43, .inl (E.2.1 0, 7, .inl a_dTo)), (q 44, .inl (E.2.1 0, 7, .inl a_dDays)), (q 45, .inl (E.2.1 0, 7, .inl a_dFirst)), (q 46, .inl (E.2.1 0, 7, .inl a_dLast))]) [0, 1, 2, 3, 4, 5, 6, 7, 8] rfl
    have hD9 := hD.sub (ws' := [(h0, .inr (12, mG q i_taped i_size i_sort i_what i_at i_end i_worth i_faultKind i_faultPlace i_got i_worked (nI dl) i_isPlanned i_bestDone i_bestCost)), (q 51, .inl (E.2.1 0, 512, .inl n_9)), (q 52, .inl (E.2.1 0, 512, .inl n_10)), (q 49, .inl (E.2.1 0, 100, .inl a_flights)), (q 42, .inl (E.2.1 0, 7, .inl a_dFrom)), (q 43, .inl (E.2.1 0, 7, .inl a_dTo)), (q 44, .inl (E.2.1 0, 7, .inl a_dDays)), (q 45, .inl (E.2.1 0, 7, .inl a_dFirst)), (q 46, .inl (E.2.1 0, 7, .inl a_dLast))]) [0, 1, 2, 3, 4, 5, 6, 7, 8] (by decide) rfl
    exact W.vret hx hb hr (fun t ht hW => ⟨⟨(n_9, n_10), rfl, trivial, hI_order, by rw [ht]; exact hP9, hD9⟩, hS.F ht⟩) hS.2.2 dX12_tries_246
  · refine lv_iload hx hb dX12_tries_21 (lv_at hl 7 rfl) ?_
    refine lv_aload_n hx hb dX12_tries_23 rfl (lv_at hl 1 rfl) ?_
    refine va_get (D := E.1) (ci := 12) (v := .ref (q 51)) (C := RX12) (T := TX12) (N := 59) hx hb hts inX12 hown hK hP 0 rfl rfl 51 (by decide) fl130 (fun _ h9 => h9) rfl dX12_tries_24 ?_
    refine lv_iload hx hb dX12_tries_27 (lv_at hl 0 rfl) ?_
    refine va_iald hx hb hK hP 1 0 rfl rfl hi_3 dX12_tries_29 ?_
    refine lv_topi (fun x_11 ex_11 => ?_)
    refine lv_icmp_lt (tgt := 57) hx hb dX12_tries_30 (by decide) (fun c_12 => ?_) (fun c_12 => ?_)
    · refine lv_aload_n hx hb dX12_tries_57 rfl (lv_at hl 1 rfl) ?_
      refine va_get (D := E.1) (ci := 12) (v := .ref (q 51)) (C := RX12) (T := TX12) (N := 59) hx hb hts inX12 hown hK hP 0 rfl rfl 51 (by decide) fl130 (fun _ h9 => h9) rfl dX12_tries_58 ?_
      refine lv_iload hx hb dX12_tries_61 (lv_at hl 0 rfl) ?_
      refine lv_iload hx hb dX12_tries_63 (lv_at hl 7 rfl) ?_
      refine va_iast hx hb hK hP hD hS 1 0 rfl rfl hi_3 dX12_tries_65 (fun H locs hP hD hS => ?_)
      have hP : va_P E.1 vwCl [(h0, .inr (12, mG q i_taped i_size i_sort i_what i_at i_end i_worth i_faultKind i_faultPlace i_got i_worked (nI dl) i_isPlanned i_bestDone i_bestCost)), (q 51, .inl (E.2.1 0, 512, .inl (upd a_least (nI ((128 * cr) + se_)).toNatClampNeg co_))), (q 52, .inl (E.2.1 0, 512, .inl a_order)), (q 49, .inl (E.2.1 0, 100, .inl a_flights)), (q 42, .inl (E.2.1 0, 7, .inl a_dFrom)), (q 43, .inl (E.2.1 0, 7, .inl a_dTo)), (q 44, .inl (E.2.1 0, 7, .inl a_dDays)), (q 45, .inl (E.2.1 0, 7, .inl a_dFirst)), (q 46, .inl (E.2.1 0, 7, .inl a_dLast))] H := hP
      have hD : va_D A [(h0, .inr (12, mG q i_taped i_size i_sort i_what i_at i_end i_worth i_faultKind i_faultPlace i_got i_worked (nI dl) i_isPlanned i_bestDone i_bestCost)), (q 51, .inl (E.2.1 0, 512, .inl (upd a_least (nI ((128 * cr) + se_)).toNatClampNeg co_))), (q 52, .inl (E.2.1 0, 512, .inl a_order)), (q 49, .inl (E.2.1 0, 100, .inl a_flights)), (q 42, .inl (E.2.1 0, 7, .inl a_dFrom)), (q 43, .inl (E.2.1 0, 7, .inl a_dTo)), (q 44, .inl (E.2.1 0, 7, .inl a_dDays)), (q 45, .inl (E.2.1 0, 7, .inl a_dFirst)), (q 46, .inl (E.2.1 0, 7, .inl a_dLast))] := hD
      obtain ⟨f_13, ef_13⟩ : ∃ g : Nat → Int32, g = upd a_least (nI ((128 * cr) + se_)).toNatClampNeg co_ := ⟨_, rfl⟩
      rw [← ef_13] at hP hD
      refine lv_aload_n hx hb dX12_tries_66 rfl (lv_at hl 1 rfl) ?_
      refine va_get (D := E.1) (ci := 12) (v := .ref (q 52)) (C := RX12) (T := TX12) (N := 59) hx hb hts inX12 hown hK hP 0 rfl rfl 52 (by decide) fl133 (fun _ h9 => h9) rfl dX12_tries_67 ?_
      refine lv_iload hx hb dX12_tries_70 (lv_at hl 0 rfl) ?_
      refine lv_iload hx hb dX12_tries_72 (lv_at hl 6 rfl) ?_
      refine va_iast hx hb hK hP hD hS 2 0 rfl rfl hi_3 dX12_tries_74 (fun H locs hP hD hS => ?_)
      have hP : va_P E.1 vwCl [(h0, .inr (12, mG q i_taped i_size i_sort i_what i_at i_end i_worth i_faultKind i_faultPlace i_got i_worked (nI dl) i_isPlanned i_bestDone i_bestCost)), (q 51, .inl (E.2.1 0, 512, .inl f_13)), (q 52, .inl (E.2.1 0, 512, .inl (upd a_order (nI ((128 * cr) + se_)).toNatClampNeg (nI ro)))), (q 49, .inl (E.2.1 0, 100, .inl a_flights)), (q 42, .inl (E.2.1 0, 7, .inl a_dFrom)), (q 43, .inl (E.2.1 0, 7, .inl a_dTo)), (q 44, .inl (E.2.1 0, 7, .inl a_dDays)), (q 45, .inl (E.2.1 0, 7, .inl a_dFirst)), (q 46, .inl (E.2.1 0, 7, .inl a_dLast))] H := hP
      have hD : va_D A [(h0, .inr (12, mG q i_taped i_size i_sort i_what i_at i_end i_worth i_faultKind i_faultPlace i_got i_worked (nI dl) i_isPlanned i_bestDone i_bestCost)), (q 51, .inl (E.2.1 0, 512, .inl f_13)), (q 52, .inl (E.2.1 0, 512, .inl (upd a_order (nI ((128 * cr) + se_)).toNatClampNeg (nI ro)))), (q 49, .inl (E.2.1 0, 100, .inl a_flights)), (q 42, .inl (E.2.1 0, 7, .inl a_dFrom)), (q 43, .inl (E.2.1 0, 7, .inl a_dTo)), (q 44, .inl (E.2.1 0, 7, .inl a_dDays)), (q 45, .inl (E.2.1 0, 7, .inl a_dFirst)), (q 46, .inl (E.2.1 0, 7, .inl a_dLast))] := hD
      obtain ⟨f_14, ef_14⟩ : ∃ g : Nat → Int32, g = upd a_order (nI ((128 * cr) + se_)).toNatClampNeg (nI ro) := ⟨_, rfl⟩
      rw [← ef_14] at hP hD
      have hI_15 : ∀ k : Nat, k < 512 → digOK (f_14 k) := by rw [ef_14]; exact all_upd (P := fun z => digOK z) hI_order (dg_OK hro (by decide))
      refine lv_iconst (v := 0) hx hb dX12_tries_75 (by decide) ?_
      refine lv_istore (lv' := [(8, .int 0), (7, .int (nI ((128 * cr) + se_))), (0, .ref h0), (1, .int (nI cr)), (2, .int (nI po)), (3, .int da), (4, .int (nI se_)), (5, .int (nI ro)), (6, .int co_)]) hx hb dX12_tries_76 hl (by decide) rfl (fun ls hl => ?_)
      have hPl := hP.sub (ws' := [(h0, .inr (12, mG q i_taped i_size i_sort i_what i_at i_end i_worth i_faultKind i_faultPlace i_got i_worked (nI dl) i_isPlanned i_bestDone i_bestCost)), (q 51, .inl (E.2.1 0, 512, .inl f_13)), (q 52, .inl (E.2.1 0, 512, .inl f_14)), (q 49, .inl (E.2.1 0, 100, .inl a_flights)), (q 42, .inl (E.2.1 0, 7, .inl a_dFrom)), (q 43, .inl (E.2.1 0, 7, .inl a_dTo)), (q 44, .inl (E.2.1 0, 7, .inl a_dDays)), (q 45, .inl (E.2.1 0, 7, .inl a_dFirst)), (q 46, .inl (E.2.1 0, 7, .inl a_dLast))]) [0, 1, 2, 3, 4, 5, 6, 7, 8] rfl
      have hDl := hD.sub (ws' := [(h0, .inr (12, mG q i_taped i_size i_sort i_what i_at i_end i_worth i_faultKind i_faultPlace i_got i_worked (nI dl) i_isPlanned i_bestDone i_bestCost)), (q 51, .inl (E.2.1 0, 512, .inl f_13)), (q 52, .inl (E.2.1 0, 512, .inl f_14)), (q 49, .inl (E.2.1 0, 100, .inl a_flights)), (q 42, .inl (E.2.1 0, 7, .inl a_dFrom)), (q 43, .inl (E.2.1 0, 7, .inl a_dTo)), (q 44, .inl (E.2.1 0, 7, .inl a_dDays)), (q 45, .inl (E.2.1 0, 7, .inl a_dFirst)), (q 46, .inl (E.2.1 0, 7, .inl a_dLast))]) [0, 1, 2, 3, 4, 5, 6, 7, 8] (by decide) rfl
      refine lm_tries3 E h0 q i_taped i_size i_sort i_what i_at i_end i_worth i_faultKind i_faultPlace i_got i_worked i_isPlanned i_bestDone i_bestCost dl cr po se_ ro da co_ a_flights a_dFrom a_dTo a_dDays a_dFirst a_dLast hx hb hml hown hts hkn hst hA (by omega) (by omega) (by omega) (by omega) hbc hro hI_dFrom hI_dTo (fun n_16 n_17 H locs ls hI_order hP hD hS hl => ?_) 9 0 f_13 f_14 _ _ _ (by omega) (by omega) hI_15 hPl hDl hS (lv_sub hl [2, 3, 4, 5, 6, 7, 8, 0] rfl)
      have hP : va_P E.1 vwCl [(h0, .inr (12, mG q i_taped i_size i_sort i_what i_at i_end i_worth i_faultKind i_faultPlace i_got i_worked (nI dl) i_isPlanned i_bestDone i_bestCost)), (q 51, .inl (E.2.1 0, 512, .inl n_16)), (q 52, .inl (E.2.1 0, 512, .inl n_17)), (q 49, .inl (E.2.1 0, 100, .inl a_flights)), (q 42, .inl (E.2.1 0, 7, .inl a_dFrom)), (q 43, .inl (E.2.1 0, 7, .inl a_dTo)), (q 44, .inl (E.2.1 0, 7, .inl a_dDays)), (q 45, .inl (E.2.1 0, 7, .inl a_dFirst)), (q 46, .inl (E.2.1 0, 7, .inl a_dLast))] H := hP
      have hD : va_D A [(h0, .inr (12, mG q i_taped i_size i_sort i_what i_at i_end i_worth i_faultKind i_faultPlace i_got i_worked (nI dl) i_isPlanned i_bestDone i_bestCost)), (q 51, .inl (E.2.1 0, 512, .inl n_16)), (q 52, .inl (E.2.1 0, 512, .inl n_17)), (q 49, .inl (E.2.1 0, 100, .inl a_flights)), (q 42, .inl (E.2.1 0, 7, .inl a_dFrom)), (q 43, .inl (E.2.1 0, 7, .inl a_dTo)), (q 44, .inl (E.2.1 0, 7, .inl a_dDays)), (q 45, .inl (E.2.1 0, 7, .inl a_dFirst)), (q 46, .inl (E.2.1 0, 7, .inl a_dLast))] := hD
      have hP9 := hP.sub (ws' := [(h0, .inr (12, mG q i_taped i_size i_sort i_what i_at i_end i_worth i_faultKind i_faultPlace i_got i_worked (nI dl) i_isPlanned i_bestDone i_bestCost)), (q 51, .inl (E.2.1 0, 512, .inl n_16)), (q 52, .inl (E.2.1 0, 512, .inl n_17)), (q 49, .inl (E.2.1 0, 100, .inl a_flights)), (q 42, .inl (E.2.1 0, 7, .inl a_dFrom)), (q 43, .inl (E.2.1 0, 7, .inl a_dTo)), (q 44, .inl (E.2.1 0, 7, .inl a_dDays)), (q 45, .inl (E.2.1 0, 7, .inl a_dFirst)), (q 46, .inl (E.2.1 0, 7, .inl a_dLast))]) [0, 1, 2, 3, 4, 5, 6, 7, 8] rfl
      have hD9 := hD.sub (ws' := [(h0, .inr (12, mG q i_taped i_size i_sort i_what i_at i_end i_worth i_faultKind i_faultPlace i_got i_worked (nI dl) i_isPlanned i_bestDone i_bestCost)), (q 51, .inl (E.2.1 0, 512, .inl n_16)), (q 52, .inl (E.2.1 0, 512, .inl n_17)), (q 49, .inl (E.2.1 0, 100, .inl a_flights)), (q 42, .inl (E.2.1 0, 7, .inl a_dFrom)), (q 43, .inl (E.2.1 0, 7, .inl a_dTo)), (q 44, .inl (E.2.1 0, 7, .inl a_dDays)), (q 45, .inl (E.2.1 0, 7, .inl a_dFirst)), (q 46, .inl (E.2.1 0, 7, .inl a_dLast))]) [0, 1, 2, 3, 4, 5, 6, 7, 8] (by decide) rfl
      exact W.vret hx hb hr (fun t ht hW => ⟨⟨(n_16, n_17), rfl, trivial, hI_order, by rw [ht]; exact hP9, hD9⟩, hS.F ht⟩) hS.2.2 dX12_tries_246
    · refine lv_iload hx hb dX12_tries_33 (lv_at hl 7 rfl) ?_
      refine lv_aload_n hx hb dX12_tries_35 rfl (lv_at hl 1 rfl) ?_
      refine va_get (D := E.1) (ci := 12) (v := .ref (q 51)) (C := RX12) (T := TX12) (N := 59) hx hb hts inX12 hown hK hP 0 rfl rfl 51 (by decide) fl130 (fun _ h9 => h9) rfl dX12_tries_36 ?_
      refine lv_iload hx hb dX12_tries_39 (lv_at hl 0 rfl) ?_
      refine va_iald hx hb hK hP 1 0 rfl rfl hi_3 dX12_tries_41 ?_
      refine lv_topi (fun x_18 ex_18 => ?_)
      refine lv_icmp_ne (tgt := 75) hx hb dX12_tries_42 (by decide) (fun c_19 => ?_) (fun c_19 => ?_)
      · refine lv_iconst (v := 0) hx hb dX12_tries_75 (by decide) ?_
        refine lv_istore (lv' := [(8, .int 0), (7, .int (nI ((128 * cr) + se_))), (0, .ref h0), (1, .int (nI cr)), (2, .int (nI po)), (3, .int da), (4, .int (nI se_)), (5, .int (nI ro)), (6, .int co_)]) hx hb dX12_tries_76 hl (by decide) rfl (fun ls hl => ?_)
        have hPl := hP.sub (ws' := [(h0, .inr (12, mG q i_taped i_size i_sort i_what i_at i_end i_worth i_faultKind i_faultPlace i_got i_worked (nI dl) i_isPlanned i_bestDone i_bestCost)), (q 51, .inl (E.2.1 0, 512, .inl a_least)), (q 52, .inl (E.2.1 0, 512, .inl a_order)), (q 49, .inl (E.2.1 0, 100, .inl a_flights)), (q 42, .inl (E.2.1 0, 7, .inl a_dFrom)), (q 43, .inl (E.2.1 0, 7, .inl a_dTo)), (q 44, .inl (E.2.1 0, 7, .inl a_dDays)), (q 45, .inl (E.2.1 0, 7, .inl a_dFirst)), (q 46, .inl (E.2.1 0, 7, .inl a_dLast))]) [0, 1, 2, 3, 4, 5, 6, 7, 8] rfl
        have hDl := hD.sub (ws' := [(h0, .inr (12, mG q i_taped i_size i_sort i_what i_at i_end i_worth i_faultKind i_faultPlace i_got i_worked (nI dl) i_isPlanned i_bestDone i_bestCost)), (q 51, .inl (E.2.1 0, 512, .inl a_least)), (q 52, .inl (E.2.1 0, 512, .inl a_order)), (q 49, .inl (E.2.1 0, 100, .inl a_flights)), (q 42, .inl (E.2.1 0, 7, .inl a_dFrom)), (q 43, .inl (E.2.1 0, 7, .inl a_dTo)), (q 44, .inl (E.2.1 0, 7, .inl a_dDays)), (q 45, .inl (E.2.1 0, 7, .inl a_dFirst)), (q 46, .inl (E.2.1 0, 7, .inl a_dLast))]) [0, 1, 2, 3, 4, 5, 6, 7, 8] (by decide) rfl
        refine lm_tries3 E h0 q i_taped i_size i_sort i_what i_at i_end i_worth i_faultKind i_faultPlace i_got i_worked i_isPlanned i_bestDone i_bestCost dl cr po se_ ro da co_ a_flights a_dFrom a_dTo a_dDays a_dFirst a_dLast hx hb hml hown hts hkn hst hA (by omega) (by omega) (by omega) (by omega) hbc hro hI_dFrom hI_dTo (fun n_20 n_21 H locs ls hI_order hP hD hS hl => ?_) 9 0 a_least a_order _ _ _ (by omega) (by omega) hI_order hPl hDl hS (lv_sub hl [2, 3, 4, 5, 6, 7, 8, 0] rfl)
        have hP : va_P E.1 vwCl [(h0, .inr (12, mG q i_taped i_size i_sort i_what i_at i_end i_worth i_faultKind i_faultPlace i_got i_worked (nI dl) i_isPlanned i_bestDone i_bestCost)), (q 51, .inl (E.2.1 0, 512, .inl n_20)), (q 52, .inl (E.2.1 0, 512, .inl n_21)), (q 49, .inl (E.2.1 0, 100, .inl a_flights)), (q 42, .inl (E.2.1 0, 7, .inl a_dFrom)), (q 43, .inl (E.2.1 0, 7, .inl a_dTo)), (q 44, .inl (E.2.1 0, 7, .inl a_dDays)), (q 45, .inl (E.2.1 0, 7, .inl a_dFirst)), (q 46, .inl (E.2.1 0, 7, .inl a_dLast))] H := hP
        have hD : va_D A [(h0, .inr (12, mG q i_taped i_size i_sort i_what i_at i_end i_worth i_faultKind i_faultPlace i_got i_worked (nI dl) i_isPlanned i_bestDone i_bestCost)), (q 51, .inl (E.2.1 0, 512, .inl n_20)), (q 52, .inl (E.2.1 0, 512, .inl n_21)), (q 49, .inl (E.2.1 0, 100, .inl a_flights)), (q 42, .inl (E.2.1 0, 7, .inl a_dFrom)), (q 43, .inl (E.2.1 0, 7, .inl a_dTo)), (q 44, .inl (E.2.1 0, 7, .inl a_dDays)), (q 45, .inl (E.2.1 0, 7, .inl a_dFirst)), (q 46, .inl (E.2.1 0, 7, .inl a_dLast))] := hD
        have hP9 := hP.sub (ws' := [(h0, .inr (12, mG q i_taped i_size i_sort i_what i_at i_end i_worth i_faultKind i_faultPlace i_got i_worked (nI dl) i_isPlanned i_bestDone i_bestCost)), (q 51, .inl (E.2.1 0, 512, .inl n_20)), (q 52, .inl (E.2.1 0, 512, .inl n_21)), (q 49, .inl (E.2.1 0, 100, .inl a_flights)), (q 42, .inl (E.2.1 0, 7, .inl a_dFrom)), (q 43, .inl (E.2.1 0, 7, .inl a_dTo)), (q 44, .inl (E.2.1 0, 7, .inl a_dDays)), (q 45, .inl (E.2.1 0, 7, .inl a_dFirst)), (q 46, .inl (E.2.1 0, 7, .inl a_dLast))]) [0, 1, 2, 3, 4, 5, 6, 7, 8] rfl
        have hD9 := hD.sub (ws' := [(h0, .inr (12, mG q i_taped i_size i_sort i_what i_at i_end i_worth i_faultKind i_faultPlace i_got i_worked (nI dl) i_isPlanned i_bestDone i_bestCost)), (q 51, .inl (E.2.1 0, 512, .inl n_20)), (q 52, .inl (E.2.1 0, 512, .inl n_21)), (q 49, .inl (E.2.1 0, 100, .inl a_flights)), (q 42, .inl (E.2.1 0, 7, .inl a_dFrom)), (q 43, .inl (E.2.1 0, 7, .inl a_dTo)), (q 44, .inl (E.2.1 0, 7, .inl a_dDays)), (q 45, .inl (E.2.1 0, 7, .inl a_dFirst)), (q 46, .inl (E.2.1 0, 7, .inl a_dLast))]) [0, 1, 2, 3, 4, 5, 6, 7, 8] (by decide) rfl
        exact W.vret hx hb hr (fun t ht hW => ⟨⟨(n_20, n_21), rfl, trivial, hI_order, by rw [ht]; exact hP9, hD9⟩, hS.F ht⟩) hS.2.2 dX12_tries_246
      · refine lv_iload hx hb dX12_tries_45 (lv_at hl 6 rfl) ?_
        refine lv_aload_n hx hb dX12_tries_47 rfl (lv_at hl 1 rfl) ?_
        refine va_get (D := E.1) (ci := 12) (v := .ref (q 52)) (C := RX12) (T := TX12) (N := 59) hx hb hts inX12 hown hK hP 0 rfl rfl 52 (by decide) fl133 (fun _ h9 => h9) rfl dX12_tries_48 ?_
        refine lv_iload hx hb dX12_tries_51 (lv_at hl 0 rfl) ?_
        refine va_iald hx hb hK hP 2 0 rfl rfl hi_3 dX12_tries_53 ?_
        refine lv_topi (fun x_22 ex_22 => ?_)
        have hv_23 : digOK x_22 := by rw [ex_22]; exact hI_order _ (vin_cl hi_3)
        refine lv_icmp_ge (tgt := 75) hx hb dX12_tries_54 (by decide) (fun c_24 => ?_) (fun c_24 => ?_)
        · refine lv_iconst (v := 0) hx hb dX12_tries_75 (by decide) ?_
          refine lv_istore (lv' := [(8, .int 0), (7, .int (nI ((128 * cr) + se_))), (0, .ref h0), (1, .int (nI cr)), (2, .int (nI po)), (3, .int da), (4, .int (nI se_)), (5, .int (nI ro)), (6, .int co_)]) hx hb dX12_tries_76 hl (by decide) rfl (fun ls hl => ?_)
          have hPl := hP.sub (ws' := [(h0, .inr (12, mG q i_taped i_size i_sort i_what i_at i_end i_worth i_faultKind i_faultPlace i_got i_worked (nI dl) i_isPlanned i_bestDone i_bestCost)), (q 51, .inl (E.2.1 0, 512, .inl a_least)), (q 52, .inl (E.2.1 0, 512, .inl a_order)), (q 49, .inl (E.2.1 0, 100, .inl a_flights)), (q 42, .inl (E.2.1 0, 7, .inl a_dFrom)), (q 43, .inl (E.2.1 0, 7, .inl a_dTo)), (q 44, .inl (E.2.1 0, 7, .inl a_dDays)), (q 45, .inl (E.2.1 0, 7, .inl a_dFirst)), (q 46, .inl (E.2.1 0, 7, .inl a_dLast))]) [0, 1, 2, 3, 4, 5, 6, 7, 8] rfl
          have hDl := hD.sub (ws' := [(h0, .inr (12, mG q i_taped i_size i_sort i_what i_at i_end i_worth i_faultKind i_faultPlace i_got i_worked (nI dl) i_isPlanned i_bestDone i_bestCost)), (q 51, .inl (E.2.1 0, 512, .inl a_least)), (q 52, .inl (E.2.1 0, 512, .inl a_order)), (q 49, .inl (E.2.1 0, 100, .inl a_flights)), (q 42, .inl (E.2.1 0, 7, .inl a_dFrom)), (q 43, .inl (E.2.1 0, 7, .inl a_dTo)), (q 44, .inl (E.2.1 0, 7, .inl a_dDays)), (q 45, .inl (E.2.1 0, 7, .inl a_dFirst)), (q 46, .inl (E.2.1 0, 7, .inl a_dLast))]) [0, 1, 2, 3, 4, 5, 6, 7, 8] (by decide) rfl
          refine lm_tries3 E h0 q i_taped i_size i_sort i_what i_at i_end i_worth i_faultKind i_faultPlace i_got i_worked i_isPlanned i_bestDone i_bestCost dl cr po se_ ro da co_ a_flights a_dFrom a_dTo a_dDays a_dFirst a_dLast hx hb hml hown hts hkn hst hA (by omega) (by omega) (by omega) (by omega) hbc hro hI_dFrom hI_dTo (fun n_25 n_26 H locs ls hI_order hP hD hS hl => ?_) 9 0 a_least a_order _ _ _ (by omega) (by omega) hI_order hPl hDl hS (lv_sub hl [2, 3, 4, 5, 6, 7, 8, 0] rfl)
          have hP : va_P E.1 vwCl [(h0, .inr (12, mG q i_taped i_size i_sort i_what i_at i_end i_worth i_faultKind i_faultPlace i_got i_worked (nI dl) i_isPlanned i_bestDone i_bestCost)), (q 51, .inl (E.2.1 0, 512, .inl n_25)), (q 52, .inl (E.2.1 0, 512, .inl n_26)), (q 49, .inl (E.2.1 0, 100, .inl a_flights)), (q 42, .inl (E.2.1 0, 7, .inl a_dFrom)), (q 43, .inl (E.2.1 0, 7, .inl a_dTo)), (q 44, .inl (E.2.1 0, 7, .inl a_dDays)), (q 45, .inl (E.2.1 0, 7, .inl a_dFirst)), (q 46, .inl (E.2.1 0, 7, .inl a_dLast))] H := hP
          have hD : va_D A [(h0, .inr (12, mG q i_taped i_size i_sort i_what i_at i_end i_worth i_faultKind i_faultPlace i_got i_worked (nI dl) i_isPlanned i_bestDone i_bestCost)), (q 51, .inl (E.2.1 0, 512, .inl n_25)), (q 52, .inl (E.2.1 0, 512, .inl n_26)), (q 49, .inl (E.2.1 0, 100, .inl a_flights)), (q 42, .inl (E.2.1 0, 7, .inl a_dFrom)), (q 43, .inl (E.2.1 0, 7, .inl a_dTo)), (q 44, .inl (E.2.1 0, 7, .inl a_dDays)), (q 45, .inl (E.2.1 0, 7, .inl a_dFirst)), (q 46, .inl (E.2.1 0, 7, .inl a_dLast))] := hD
          have hP9 := hP.sub (ws' := [(h0, .inr (12, mG q i_taped i_size i_sort i_what i_at i_end i_worth i_faultKind i_faultPlace i_got i_worked (nI dl) i_isPlanned i_bestDone i_bestCost)), (q 51, .inl (E.2.1 0, 512, .inl n_25)), (q 52, .inl (E.2.1 0, 512, .inl n_26)), (q 49, .inl (E.2.1 0, 100, .inl a_flights)), (q 42, .inl (E.2.1 0, 7, .inl a_dFrom)), (q 43, .inl (E.2.1 0, 7, .inl a_dTo)), (q 44, .inl (E.2.1 0, 7, .inl a_dDays)), (q 45, .inl (E.2.1 0, 7, .inl a_dFirst)), (q 46, .inl (E.2.1 0, 7, .inl a_dLast))]) [0, 1, 2, 3, 4, 5, 6, 7, 8] rfl
          have hD9 := hD.sub (ws' := [(h0, .inr (12, mG q i_taped i_size i_sort i_what i_at i_end i_worth i_faultKind i_faultPlace i_got i_worked (nI dl) i_isPlanned i_bestDone i_bestCost)), (q 51, .inl (E.2.1 0, 512, .inl n_25)), (q 52, .inl (E.2.1 0, 512, .inl n_26)), (q 49, .inl (E.2.1 0, 100, .inl a_flights)), (q 42, .inl (E.2.1 0, 7, .inl a_dFrom)), (q 43, .inl (E.2.1 0, 7, .inl a_dTo)), (q 44, .inl (E.2.1 0, 7, .inl a_dDays)), (q 45, .inl (E.2.1 0, 7, .inl a_dFirst)), (q 46, .inl (E.2.1 0, 7, .inl a_dLast))]) [0, 1, 2, 3, 4, 5, 6, 7, 8] (by decide) rfl
          exact W.vret hx hb hr (fun t ht hW => ⟨⟨(n_25, n_26), rfl, trivial, hI_order, by rw [ht]; exact hP9, hD9⟩, hS.F ht⟩) hS.2.2 dX12_tries_246
        · refine lv_aload_n hx hb dX12_tries_57 rfl (lv_at hl 1 rfl) ?_
          refine va_get (D := E.1) (ci := 12) (v := .ref (q 51)) (C := RX12) (T := TX12) (N := 59) hx hb hts inX12 hown hK hP 0 rfl rfl 51 (by decide) fl130 (fun _ h9 => h9) rfl dX12_tries_58 ?_
          refine lv_iload hx hb dX12_tries_61 (lv_at hl 0 rfl) ?_
          refine lv_iload hx hb dX12_tries_63 (lv_at hl 7 rfl) ?_
          refine va_iast hx hb hK hP hD hS 1 0 rfl rfl hi_3 dX12_tries_65 (fun H locs hP hD hS => ?_)
          have hP : va_P E.1 vwCl [(h0, .inr (12, mG q i_taped i_size i_sort i_what i_at i_end i_worth i_faultKind i_faultPlace i_got i_worked (nI dl) i_isPlanned i_bestDone i_bestCost)), (q 51, .inl (E.2.1 0, 512, .inl (upd a_least (nI ((128 * cr) + se_)).toNatClampNeg co_))), (q 52, .inl (E.2.1 0, 512, .inl a_order)), (q 49, .inl (E.2.1 0, 100, .inl a_flights)), (q 42, .inl (E.2.1 0, 7, .inl a_dFrom)), (q 43, .inl (E.2.1 0, 7, .inl a_dTo)), (q 44, .inl (E.2.1 0, 7, .inl a_dDays)), (q 45, .inl (E.2.1 0, 7, .inl a_dFirst)), (q 46, .inl (E.2.1 0, 7, .inl a_dLast))] H := hP
          have hD : va_D A [(h0, .inr (12, mG q i_taped i_size i_sort i_what i_at i_end i_worth i_faultKind i_faultPlace i_got i_worked (nI dl) i_isPlanned i_bestDone i_bestCost)), (q 51, .inl (E.2.1 0, 512, .inl (upd a_least (nI ((128 * cr) + se_)).toNatClampNeg co_))), (q 52, .inl (E.2.1 0, 512, .inl a_order)), (q 49, .inl (E.2.1 0, 100, .inl a_flights)), (q 42, .inl (E.2.1 0, 7, .inl a_dFrom)), (q 43, .inl (E.2.1 0, 7, .inl a_dTo)), (q 44, .inl (E.2.1 0, 7, .inl a_dDays)), (q 45, .inl (E.2.1 0, 7, .inl a_dFirst)), (q 46, .inl (E.2.1 0, 7, .inl a_dLast))] := hD
          obtain ⟨f_27, ef_27⟩ : ∃ g : Nat → Int32, g = upd a_least (nI ((128 * cr) + se_)).toNatClampNeg co_ := ⟨_, rfl⟩
          rw [← ef_27] at hP hD
          refine lv_aload_n hx hb dX12_tries_66 rfl (lv_at hl 1 rfl) ?_
          refine va_get (D := E.1) (ci := 12) (v := .ref (q 52)) (C := RX12) (T := TX12) (N := 59) hx hb hts inX12 hown hK hP 0 rfl rfl 52 (by decide) fl133 (fun _ h9 => h9) rfl dX12_tries_67 ?_
          refine lv_iload hx hb dX12_tries_70 (lv_at hl 0 rfl) ?_
          refine lv_iload hx hb dX12_tries_72 (lv_at hl 6 rfl) ?_
          refine va_iast hx hb hK hP hD hS 2 0 rfl rfl hi_3 dX12_tries_74 (fun H locs hP hD hS => ?_)
          have hP : va_P E.1 vwCl [(h0, .inr (12, mG q i_taped i_size i_sort i_what i_at i_end i_worth i_faultKind i_faultPlace i_got i_worked (nI dl) i_isPlanned i_bestDone i_bestCost)), (q 51, .inl (E.2.1 0, 512, .inl f_27)), (q 52, .inl (E.2.1 0, 512, .inl (upd a_order (nI ((128 * cr) + se_)).toNatClampNeg (nI ro)))), (q 49, .inl (E.2.1 0, 100, .inl a_flights)), (q 42, .inl (E.2.1 0, 7, .inl a_dFrom)), (q 43, .inl (E.2.1 0, 7, .inl a_dTo)), (q 44, .inl (E.2.1 0, 7, .inl a_dDays)), (q 45, .inl (E.2.1 0, 7, .inl a_dFirst)), (q 46, .inl (E.2.1 0, 7, .inl a_dLast))] H := hP
          have hD : va_D A [(h0, .inr (12, mG q i_taped i_size i_sort i_what i_at i_end i_worth i_faultKind i_faultPlace i_got i_worked (nI dl) i_isPlanned i_bestDone i_bestCost)), (q 51, .inl (E.2.1 0, 512, .inl f_27)), (q 52, .inl (E.2.1 0, 512, .inl (upd a_order (nI ((128 * cr) + se_)).toNatClampNeg (nI ro)))), (q 49, .inl (E.2.1 0, 100, .inl a_flights)), (q 42, .inl (E.2.1 0, 7, .inl a_dFrom)), (q 43, .inl (E.2.1 0, 7, .inl a_dTo)), (q 44, .inl (E.2.1 0, 7, .inl a_dDays)), (q 45, .inl (E.2.1 0, 7, .inl a_dFirst)), (q 46, .inl (E.2.1 0, 7, .inl a_dLast))] := hD
          obtain ⟨f_28, ef_28⟩ : ∃ g : Nat → Int32, g = upd a_order (nI ((128 * cr) + se_)).toNatClampNeg (nI ro) := ⟨_, rfl⟩
          rw [← ef_28] at hP hD
          have hI_29 : ∀ k : Nat, k < 512 → digOK (f_28 k) := by rw [ef_28]; exact all_upd (P := fun z => digOK z) hI_order (dg_OK hro (by decide))
          refine lv_iconst (v := 0) hx hb dX12_tries_75 (by decide) ?_
          refine lv_istore (lv' := [(8, .int 0), (7, .int (nI ((128 * cr) + se_))), (0, .ref h0), (1, .int (nI cr)), (2, .int (nI po)), (3, .int da), (4, .int (nI se_)), (5, .int (nI ro)), (6, .int co_)]) hx hb dX12_tries_76 hl (by decide) rfl (fun ls hl => ?_)
          have hPl := hP.sub (ws' := [(h0, .inr (12, mG q i_taped i_size i_sort i_what i_at i_end i_worth i_faultKind i_faultPlace i_got i_worked (nI dl) i_isPlanned i_bestDone i_bestCost)), (q 51, .inl (E.2.1 0, 512, .inl f_27)), (q 52, .inl (E.2.1 0, 512, .inl f_28)), (q 49, .inl (E.2.1 0, 100, .inl a_flights)), (q 42, .inl (E.2.1 0, 7, .inl a_dFrom)), (q 43, .inl (E.2.1 0, 7, .inl a_dTo)), (q 44, .inl (E.2.1 0, 7, .inl a_dDays)), (q 45, .inl (E.2.1 0, 7, .inl a_dFirst)), (q 46, .inl (E.2.1 0, 7, .inl a_dLast))]) [0, 1, 2, 3, 4, 5, 6, 7, 8] rfl
          have hDl := hD.sub (ws' := [(h0, .inr (12, mG q i_taped i_size i_sort i_what i_at i_end i_worth i_faultKind i_faultPlace i_got i_worked (nI dl) i_isPlanned i_bestDone i_bestCost)), (q 51, .inl (E.2.1 0, 512, .inl f_27)), (q 52, .inl (E.2.1 0, 512, .inl f_28)), (q 49, .inl (E.2.1 0, 100, .inl a_flights)), (q 42, .inl (E.2.1 0, 7, .inl a_dFrom)), (q 43, .inl (E.2.1 0, 7, .inl a_dTo)), (q 44, .inl (E.2.1 0, 7, .inl a_dDays)), (q 45, .inl (E.2.1 0, 7, .inl a_dFirst)), (q 46, .inl (E.2.1 0, 7, .inl a_dLast))]) [0, 1, 2, 3, 4, 5, 6, 7, 8] (by decide) rfl
          refine lm_tries3 E h0 q i_taped i_size i_sort i_what i_at i_end i_worth i_faultKind i_faultPlace i_got i_worked i_isPlanned i_bestDone i_bestCost dl cr po se_ ro da co_ a_flights a_dFrom a_dTo a_dDays a_dFirst a_dLast hx hb hml hown hts hkn hst hA (by omega) (by omega) (by omega) (by omega) hbc hro hI_dFrom hI_dTo (fun n_30 n_31 H locs ls hI_order hP hD hS hl => ?_) 9 0 f_27 f_28 _ _ _ (by omega) (by omega) hI_29 hPl hDl hS (lv_sub hl [2, 3, 4, 5, 6, 7, 8, 0] rfl)
          have hP : va_P E.1 vwCl [(h0, .inr (12, mG q i_taped i_size i_sort i_what i_at i_end i_worth i_faultKind i_faultPlace i_got i_worked (nI dl) i_isPlanned i_bestDone i_bestCost)), (q 51, .inl (E.2.1 0, 512, .inl n_30)), (q 52, .inl (E.2.1 0, 512, .inl n_31)), (q 49, .inl (E.2.1 0, 100, .inl a_flights)), (q 42, .inl (E.2.1 0, 7, .inl a_dFrom)), (q 43, .inl (E.2.1 0, 7, .inl a_dTo)), (q 44, .inl (E.2.1 0, 7, .inl a_dDays)), (q 45, .inl (E.2.1 0, 7, .inl a_dFirst)), (q 46, .inl (E.2.1 0, 7, .inl a_dLast))] H := hP
          have hD : va_D A [(h0, .inr (12, mG q i_taped i_size i_sort i_what i_at i_end i_worth i_faultKind i_faultPlace i_got i_worked (nI dl) i_isPlanned i_bestDone i_bestCost)), (q 51, .inl (E.2.1 0, 512, .inl n_30)), (q 52, .inl (E.2.1 0, 512, .inl n_31)), (q 49, .inl (E.2.1 0, 100, .inl a_flights)), (q 42, .inl (E.2.1 0, 7, .inl a_dFrom)), (q 43, .inl (E.2.1 0, 7, .inl a_dTo)), (q 44, .inl (E.2.1 0, 7, .inl a_dDays)), (q 45, .inl (E.2.1 0, 7, .inl a_dFirst)), (q 46, .inl (E.2.1 0, 7, .inl a_dLast))] := hD
          have hP9 := hP.sub (ws' := [(h0, .inr (12, mG q i_taped i_size i_sort i_what i_at i_end i_worth i_faultKind i_faultPlace i_got i_worked (nI dl) i_isPlanned i_bestDone i_bestCost)), (q 51, .inl (E.2.1 0, 512, .inl n_30)), (q 52, .inl (E.2.1 0, 512, .inl n_31)), (q 49, .inl (E.2.1 0, 100, .inl a_flights)), (q 42, .inl (E.2.1 0, 7, .inl a_dFrom)), (q 43, .inl (E.2.1 0, 7, .inl a_dTo)), (q 44, .inl (E.2.1 0, 7, .inl a_dDays)), (q 45, .inl (E.2.1 0, 7, .inl a_dFirst)), (q 46, .inl (E.2.1 0, 7, .inl a_dLast))]) [0, 1, 2, 3, 4, 5, 6, 7, 8] rfl
          have hD9 := hD.sub (ws' := [(h0, .inr (12, mG q i_taped i_size i_sort i_what i_at i_end i_worth i_faultKind i_faultPlace i_got i_worked (nI dl) i_isPlanned i_bestDone i_bestCost)), (q 51, .inl (E.2.1 0, 512, .inl n_30)), (q 52, .inl (E.2.1 0, 512, .inl n_31)), (q 49, .inl (E.2.1 0, 100, .inl a_flights)), (q 42, .inl (E.2.1 0, 7, .inl a_dFrom)), (q 43, .inl (E.2.1 0, 7, .inl a_dTo)), (q 44, .inl (E.2.1 0, 7, .inl a_dDays)), (q 45, .inl (E.2.1 0, 7, .inl a_dFirst)), (q 46, .inl (E.2.1 0, 7, .inl a_dLast))]) [0, 1, 2, 3, 4, 5, 6, 7, 8] (by decide) rfl
          exact W.vret hx hb hr (fun t ht hW => ⟨⟨(n_30, n_31), rfl, trivial, hI_order, by rw [ht]; exact hP9, hD9⟩, hS.F ht⟩) hS.2.2 dX12_tries_246
set_option maxHeartbeats 4000000 in
set_option maxRecDepth 100000 in
theorem lm_tries2 {p : Program} {l : Launch} {e : Env} {s : State} {m : MethodId} {args : Array Value} {below : List Frame} {meth : Method} {c : Code} {Q : State → Prop} {A : Nat → Prop} (E : vE) (h0 : Nat) (q : Nat → Nat) (i_taped : Int32) (i_size : Int32) (i_sort : Int32) (i_what : Int32) (i_at : Int32) (i_end : Int32) (i_worth : Int32) (i_faultKind : Int32) (i_faultPlace : Int32) (i_got : Int32) (i_worked : Int32) (i_isPlanned : Int32) (i_bestDone : Int32) (i_bestCost : Int32) (dl : Nat) (cr : Nat) (po : Nat) (se_ : Nat) (ro : Nat) (da : Int32) (co_ : Int32) (a_flights : Nat → Int32) (a_dFrom : Nat → Int32) (a_dTo : Nat → Int32) (a_dDays : Nat → Int32) (a_dFirst : Nat → Int32) (a_dLast : Nat → Int32) (hx : p.tables.exec = Jvm.exec) (hb : c.code = cX12_tries) (hml : c.maxLocals = 11) (hown : s.vm.findClass RX12 = some m.cls) (hts : ∀ w ∈ wsX12_tries, w.before args s = true) (hkn : kn E s) (hst : st E A s s.heap) (hA : ∀ q : Nat, s.heap.size ≤ q → A q) (hcr : cr < 4) (hpo : po ≤ 9) (hse : se_ < 128) (hdl : dl ≤ 7) (hbc : bc7 se_ = 2) (hro : dg ro 2) (hI_dFrom : ∀ k : Nat, k < 7 → inR (a_dFrom k) 0 9 = true) (hI_dTo : ∀ k : Nat, k < 7 → inR (a_dTo k) 0 9 = true) (kk : ∀ (a_least : Nat → Int32) (a_order : Nat → Int32) (H : Heap) (locs : List Loc) (ls : Array Slot), (∀ k : Nat, k < 512 → digOK (a_order k)) → va_P E.1 vwCl [(h0, .inr (12, mG q i_taped i_size i_sort i_what i_at i_end i_worth i_faultKind i_faultPlace i_got i_worked (nI dl) i_isPlanned i_bestDone i_bestCost)), (q 51, .inl (E.2.1 0, 512, .inl a_least)), (q 52, .inl (E.2.1 0, 512, .inl a_order)), (q 49, .inl (E.2.1 0, 100, .inl a_flights)), (q 42, .inl (E.2.1 0, 7, .inl a_dFrom)), (q 43, .inl (E.2.1 0, 7, .inl a_dTo)), (q 44, .inl (E.2.1 0, 7, .inl a_dDays)), (q 45, .inl (E.2.1 0, 7, .inl a_dFirst)), (q 46, .inl (E.2.1 0, 7, .inl a_dLast))] H → va_D A [(h0, .inr (12, mG q i_taped i_size i_sort i_what i_at i_end i_worth i_faultKind i_faultPlace i_got i_worked (nI dl) i_isPlanned i_bestDone i_bestCost)), (q 51, .inl (E.2.1 0, 512, .inl a_least)), (q 52, .inl (E.2.1 0, 512, .inl a_order)), (q 49, .inl (E.2.1 0, 100, .inl a_flights)), (q 42, .inl (E.2.1 0, 7, .inl a_dFrom)), (q 43, .inl (E.2.1 0, 7, .inl a_dTo)), (q 44, .inl (E.2.1 0, 7, .inl a_dDays)), (q 45, .inl (E.2.1 0, 7, .inl a_dFirst)), (q 46, .inl (E.2.1 0, 7, .inl a_dLast))] → va_S A s.heap H locs → lv_has ls 11 [(0, .ref h0)] → W p l e ({ frames := 5, cells := 0, slots := 0, locals := 150 }) s m args below meth c H locs 0 0 Q (F0 m 246 ls [])) : ∀ (n0 : Nat) (k : Nat) (a_least : Nat → Int32) (a_order : Nat → Int32) (H : Heap) (locs : List Loc) (ls : Array Slot), 8 - k < n0 → (k ≤ 7) → (∀ k : Nat, k < 512 → digOK (a_order k)) → va_P E.1 vwCl [(h0, .inr (12, mG q i_taped i_size i_sort i_what i_at i_end i_worth i_faultKind i_faultPlace i_got i_worked (nI dl) i_isPlanned i_bestDone i_bestCost)), (q 51, .inl (E.2.1 0, 512, .inl a_least)), (q 52, .inl (E.2.1 0, 512, .inl a_order)), (q 49, .inl (E.2.1 0, 100, .inl a_flights)), (q 42, .inl (E.2.1 0, 7, .inl a_dFrom)), (q 43, .inl (E.2.1 0, 7, .inl a_dTo)), (q 44, .inl (E.2.1 0, 7, .inl a_dDays)), (q 45, .inl (E.2.1 0, 7, .inl a_dFirst)), (q 46, .inl (E.2.1 0, 7, .inl a_dLast))] H → va_D A [(h0, .inr (12, mG q i_taped i_size i_sort i_what i_at i_end i_worth i_faultKind i_faultPlace i_got i_worked (nI dl) i_isPlanned i_bestDone i_bestCost)), (q 51, .inl (E.2.1 0, 512, .inl a_least)), (q 52, .inl (E.2.1 0, 512, .inl a_order)), (q 49, .inl (E.2.1 0, 100, .inl a_flights)), (q 42, .inl (E.2.1 0, 7, .inl a_dFrom)), (q 43, .inl (E.2.1 0, 7, .inl a_dTo)), (q 44, .inl (E.2.1 0, 7, .inl a_dDays)), (q 45, .inl (E.2.1 0, 7, .inl a_dFirst)), (q 46, .inl (E.2.1 0, 7, .inl a_dLast))] → va_S A s.heap H locs → lv_has ls 11 [(0, .ref h0), (1, .int (nI cr)), (2, .int (nI po)), (3, .int da), (4, .int (nI se_)), (5, .int (nI ro)), (6, .int co_), (8, .int (nI k))] → W p l e ({ frames := 5, cells := 0, slots := 0, locals := 150 }) s m args below meth c H locs 0 0 Q (F0 m 78 ls []) := by
  have hK := hkn.1
  have hAO := hkn.2.2.1
  have fl106 := hts (.fieldLink RX12 106 "BoatsHomeModel" "dFrom" "[I") (by first | exact List.mem_of_getElem? (i := 5) rfl | decide +kernel)
  have fl109 := hts (.fieldLink RX12 109 "BoatsHomeModel" "dTo" "[I") (by first | exact List.mem_of_getElem? (i := 8) rfl | decide +kernel)
  have fl112 := hts (.fieldLink RX12 112 "BoatsHomeModel" "dDays" "[I") (by first | exact List.mem_of_getElem? (i := 9) rfl | decide +kernel)
  have fl115 := hts (.fieldLink RX12 115 "BoatsHomeModel" "dFirst" "[I") (by first | exact List.mem_of_getElem? (i := 6) rfl | decide +kernel)
  have fl118 := hts (.fieldLink RX12 118 "BoatsHomeModel" "dLast" "[I") (by first | exact List.mem_of_getElem? (i := 7) rfl | decide +kernel)
  have fl127 := hts (.fieldLink RX12 127 "BoatsHomeModel" "flights" "[I") (by first | exact List.mem_of_getElem? (i := 4) rfl | decide +kernel)
  have fl130 := hts (.fieldLink RX12 130 "BoatsHomeModel" "least" "[I") (by first | exact List.mem_of_getElem? (i := 1) rfl | decide +kernel)
  have fl133 := hts (.fieldLink RX12 133 "BoatsHomeModel" "order" "[I") (by first | exact List.mem_of_getElem? (i := 2) rfl | decide +kernel)
  have fl289 := hts (.fieldLink RX12 289 "BoatsHomeModel" "deliveries" "I") (by first | exact List.mem_of_getElem? (i := 3) rfl | decide +kernel)
  have inX12 : ∀ w ∈ u_ws RX12 TX12 59, w ∈ wsX12_tries := by first | exact fun w h9 => (List.mem_cons_of_mem _ (List.mem_append_right _ h9)) | decide +kernel
  intro n0
  induction n0 with
  | zero =>
    intro k a_least a_order H locs ls hn0
    exact absurd hn0 (Nat.not_lt_zero _)
  | succ n0 ih =>
    intro k a_least a_order H locs ls hn0 hk hI_order hP hD hS hl
    refine lv_iload hx hb dX12_tries_78 (lv_at hl 7 rfl) ?_
    refine lv_aload_n hx hb dX12_tries_80 rfl (lv_at hl 0 rfl) ?_
    refine va_get (D := E.1) (ci := 12) (v := .int (nI dl)) (C := RX12) (T := TX12) (N := 59) hx hb hts inX12 hown hK hP 0 rfl rfl 41 (by decide) fl289 (fun _ h9 => h9) rfl dX12_tries_81 ?_
    refine lv_icmp_ge (tgt := 246) hx hb dX12_tries_84 (by decide) (fun c_1 => ?_) (fun c_1 => ?_)
    · exact kk a_least a_order _ _ _ hI_order (hP.sub [0, 1, 2, 3, 4, 5, 6, 7, 8] rfl) (hD.sub [0, 1, 2, 3, 4, 5, 6, 7, 8] (by decide) rfl) hS (lv_sub hl [0] rfl)
    · have hlt : k < 7 := by have := lt_of_nle (by omega) c_1; omega
      refine lv_iload hx hb dX12_tries_87 (lv_at hl 4 rfl) ?_
      refine lv_iload hx hb dX12_tries_89 (lv_at hl 7 rfl) ?_
      refine lv_ishr hx hb dX12_tries_91 ?_
      refine lv_topi (fun x_2 ex_2 => ?_)
      refine lv_iconst (v := 1) hx hb dX12_tries_92 (by decide) ?_
      refine lv_iand hx hb dX12_tries_93 ?_
      refine lv_topi (fun x_3 ex_3 => ?_)
      refine lv_iconst (v := 1) hx hb dX12_tries_94 (by decide) ?_
      refine lv_icmp_eq (tgt := 240) hx hb dX12_tries_95 (by decide) (fun c_4 => ?_) (fun c_4 => ?_)
      · refine lv_iinc (v := (nI (k + 1))) (lv' := [(8, .int (nI (k + 1))), (0, .ref h0), (1, .int (nI cr)), (2, .int (nI po)), (3, .int da), (4, .int (nI se_)), (5, .int (nI ro)), (6, .int co_)]) hx hb dX12_tries_240 hl (k := 7) rfl (show nI k + 1 = nI (k + 1) from nI_1 k) (by decide) rfl (fun ls hl => ?_)
        refine lv_goto (tgt := 78) hx hb dX12_tries_243 (by decide) ?_
        exact ih (k + 1) a_least a_order _ _ _ (by omega) (by omega) hI_order (hP.sub [0, 1, 2, 3, 4, 5, 6, 7, 8] rfl) (hD.sub [0, 1, 2, 3, 4, 5, 6, 7, 8] (by decide) rfl) hS (lv_sub hl [1, 2, 3, 4, 5, 6, 7, 0] rfl)
      · refine lv_aload_n hx hb dX12_tries_98 rfl (lv_at hl 0 rfl) ?_
        refine va_get (D := E.1) (ci := 12) (v := .ref (q 49)) (C := RX12) (T := TX12) (N := 59) hx hb hts inX12 hown hK hP 0 rfl rfl 49 (by decide) fl127 (fun _ h9 => h9) rfl dX12_tries_99 ?_
        refine lv_bipush (v := 10) hx hb dX12_tries_102 (by decide) ?_
        refine lv_iload_n hx hb dX12_tries_104 rfl (lv_at hl 2 rfl) ?_
        refine lv_imul hx hb dX12_tries_105 ?_
        refine lv_topi (fun x_5 ex_5 => ?_)
        obtain rfl : x_5 = nI (10 * po) := ex_5.trans (pk_mul 10 po)
        refine lv_aload_n hx hb dX12_tries_106 rfl (lv_at hl 0 rfl) ?_
        refine va_get (D := E.1) (ci := 12) (v := .ref (q 42)) (C := RX12) (T := TX12) (N := 59) hx hb hts inX12 hown hK hP 0 rfl rfl 42 (by decide) fl106 (fun _ h9 => h9) rfl dX12_tries_107 ?_
        refine lv_iload hx hb dX12_tries_110 (lv_at hl 7 rfl) ?_
        have hi_6 : vp_in (nI k) 7 := vp_in_nI (by omega) (by decide)
        refine va_iald hx hb hK hP 4 0 rfl rfl hi_6 dX12_tries_112 ?_
        refine lv_topi (fun x_7 ex_7 => ?_)
        have hv_8 : inR x_7 0 9 = true := by rw [ex_7]; exact hI_dFrom _ (vin_cl hi_6)
        obtain ⟨w_9, hw_10, ew_11⟩ := inR_nI (n := 9) (by decide) hv_8
        subst ew_11
        refine lv_iadd hx hb dX12_tries_113 ?_
        refine lv_topi (fun x_12 ex_12 => ?_)
        obtain rfl : x_12 = nI ((10 * po) + w_9) := ex_12.trans (nI_add (10 * po) w_9)
        have hi_13 : vp_in (nI ((10 * po) + w_9)) 100 := vp_in_nI (by omega) (by decide)
        refine va_iald hx hb hK hP 3 0 rfl rfl hi_13 dX12_tries_114 ?_
        refine lv_topi (fun x_14 ex_14 => ?_)
        refine lv_iconst (v := (-1)) hx hb dX12_tries_115 (by decide) ?_
        refine lv_icmp_ne (tgt := 122) hx hb dX12_tries_116 (by decide) (fun c_15 => ?_) (fun c_15 => ?_)
        · refine lv_iload_n hx hb dX12_tries_122 rfl (lv_at hl 3 rfl) ?_
          refine lv_iload_n hx hb dX12_tries_123 rfl (lv_at hl 2 rfl) ?_
          refine lv_aload_n hx hb dX12_tries_124 rfl (lv_at hl 0 rfl) ?_
          refine va_get (D := E.1) (ci := 12) (v := .ref (q 42)) (C := RX12) (T := TX12) (N := 59) hx hb hts inX12 hown hK hP 0 rfl rfl 42 (by decide) fl106 (fun _ h9 => h9) rfl dX12_tries_125 ?_
          refine lv_iload hx hb dX12_tries_128 (lv_at hl 7 rfl) ?_
          refine va_iald hx hb hK hP 4 0 rfl rfl hi_6 dX12_tries_130 ?_
          refine lv_topi (fun x_16 ex_16 => ?_)
          obtain rfl : x_16 = nI w_9 := ex_16.trans ex_7.symm
          refine lv_icmp_ne (tgt := 138) hx hb dX12_tries_131 (by decide) (fun c_17 => ?_) (fun c_17 => ?_)
          · refine lv_iconst (v := 1) hx hb dX12_tries_138 (by decide) ?_
            refine lv_iadd hx hb dX12_tries_139 ?_
            refine lv_topi (fun x_18 ex_18 => ?_)
            refine lv_istore (lv' := [(9, .int x_18), (0, .ref h0), (1, .int (nI cr)), (2, .int (nI po)), (3, .int da), (4, .int (nI se_)), (5, .int (nI ro)), (6, .int co_), (8, .int (nI k))]) hx hb dX12_tries_140 hl (by decide) rfl (fun ls hl => ?_)
            refine lv_iload hx hb dX12_tries_142 (lv_at hl 0 rfl) ?_
            refine lv_aload_n hx hb dX12_tries_144 rfl (lv_at hl 1 rfl) ?_
            refine va_get (D := E.1) (ci := 12) (v := .ref (q 45)) (C := RX12) (T := TX12) (N := 59) hx hb hts inX12 hown hK hP 0 rfl rfl 45 (by decide) fl115 (fun _ h9 => h9) rfl dX12_tries_145 ?_
            refine lv_iload hx hb dX12_tries_148 (lv_at hl 8 rfl) ?_
            refine va_iald hx hb hK hP 7 0 rfl rfl hi_6 dX12_tries_150 ?_
            refine lv_topi (fun x_19 ex_19 => ?_)
            refine lv_icmp_le (tgt := 159) hx hb dX12_tries_151 (by decide) (fun c_20 => ?_) (fun c_20 => ?_)
            · refine lv_aload_n hx hb dX12_tries_159 rfl (lv_at hl 1 rfl) ?_
              refine va_get (D := E.1) (ci := 12) (v := .ref (q 45)) (C := RX12) (T := TX12) (N := 59) hx hb hts inX12 hown hK hP 0 rfl rfl 45 (by decide) fl115 (fun _ h9 => h9) rfl dX12_tries_160 ?_
              refine lv_iload hx hb dX12_tries_163 (lv_at hl 8 rfl) ?_
              refine va_iald hx hb hK hP 7 0 rfl rfl hi_6 dX12_tries_165 ?_
              refine lv_topi (fun x_21 ex_21 => ?_)
              refine lv_istore (lv' := [(10, .int x_21), (9, .int x_18), (0, .ref h0), (1, .int (nI cr)), (2, .int (nI po)), (3, .int da), (4, .int (nI se_)), (5, .int (nI ro)), (6, .int co_), (8, .int (nI k))]) hx hb dX12_tries_166 hl (by decide) rfl (fun ls hl => ?_)
              refine lv_iload hx hb dX12_tries_168 (lv_at hl 0 rfl) ?_
              refine lv_aload_n hx hb dX12_tries_170 rfl (lv_at hl 2 rfl) ?_
              refine va_get (D := E.1) (ci := 12) (v := .ref (q 46)) (C := RX12) (T := TX12) (N := 59) hx hb hts inX12 hown hK hP 0 rfl rfl 46 (by decide) fl118 (fun _ h9 => h9) rfl dX12_tries_171 ?_
              refine lv_iload hx hb dX12_tries_174 (lv_at hl 9 rfl) ?_
              refine va_iald hx hb hK hP 8 0 rfl rfl hi_6 dX12_tries_176 ?_
              refine lv_topi (fun x_22 ex_22 => ?_)
              refine lv_icmp_le (tgt := 183) hx hb dX12_tries_177 (by decide) (fun c_23 => ?_) (fun c_23 => ?_)
              · refine lv_aload_n hx hb dX12_tries_183 rfl (lv_at hl 2 rfl) ?_
                refine lv_iload_n hx hb dX12_tries_184 rfl (lv_at hl 3 rfl) ?_
                refine lv_aload_n hx hb dX12_tries_185 rfl (lv_at hl 2 rfl) ?_
                refine va_get (D := E.1) (ci := 12) (v := .ref (q 43)) (C := RX12) (T := TX12) (N := 59) hx hb hts inX12 hown hK hP 0 rfl rfl 43 (by decide) fl109 (fun _ h9 => h9) rfl dX12_tries_186 ?_
                refine lv_iload hx hb dX12_tries_189 (lv_at hl 9 rfl) ?_
                refine va_iald hx hb hK hP 5 0 rfl rfl hi_6 dX12_tries_191 ?_
                refine lv_topi (fun x_24 ex_24 => ?_)
                have hv_25 : inR x_24 0 9 = true := by rw [ex_24]; exact hI_dTo _ (vin_cl hi_6)
                obtain ⟨w_26, hw_27, ew_28⟩ := inR_nI (n := 9) (by decide) hv_25
                subst ew_28
                refine lv_iload hx hb dX12_tries_192 (lv_at hl 0 rfl) ?_
                refine lv_aload_n hx hb dX12_tries_194 rfl (lv_at hl 2 rfl) ?_
                refine va_get (D := E.1) (ci := 12) (v := .ref (q 44)) (C := RX12) (T := TX12) (N := 59) hx hb hts inX12 hown hK hP 0 rfl rfl 44 (by decide) fl112 (fun _ h9 => h9) rfl dX12_tries_195 ?_
                refine lv_iload hx hb dX12_tries_198 (lv_at hl 9 rfl) ?_
                refine va_iald hx hb hK hP 6 0 rfl rfl hi_6 dX12_tries_200 ?_
                refine lv_topi (fun x_29 ex_29 => ?_)
                refine lv_iadd hx hb dX12_tries_201 ?_
                refine lv_topi (fun x_30 ex_30 => ?_)
                refine lv_iload hx hb dX12_tries_202 (lv_at hl 6 rfl) ?_
                refine lv_iconst (v := 1) hx hb dX12_tries_204 (by decide) ?_
                refine lv_iload hx hb dX12_tries_205 (lv_at hl 9 rfl) ?_
                refine lv_ishl hx hb dX12_tries_207 ?_
                refine lv_topi (fun x_31 ex_31 => ?_)
                refine lv_ior hx hb dX12_tries_208 ?_
                refine lv_topi (fun x_32 ex_32 => ?_)
                obtain ⟨w_33, hw_34, hw_34b, hw_34e⟩ : ∃ w, w < 128 ∧ bc7 w = 2 + 1 ∧ x_32 = nI w := by rw [ex_32, ex_31]; exact tr_bit hse hlt hbc (by rw [ex_3, ex_2] at c_4; exact c_4)
                subst hw_34e
                refine lv_bipush (v := 8) hx hb dX12_tries_209 (by decide) ?_
                refine lv_iload hx hb dX12_tries_211 (lv_at hl 7 rfl) ?_
                refine lv_imul hx hb dX12_tries_213 ?_
                refine lv_topi (fun x_35 ex_35 => ?_)
                obtain rfl : x_35 = nI (8 * ro) := ex_35.trans (pk_mul 8 ro)
                refine lv_iload hx hb dX12_tries_214 (lv_at hl 9 rfl) ?_
                refine lv_iadd hx hb dX12_tries_216 ?_
                refine lv_topi (fun x_36 ex_36 => ?_)
                obtain rfl : x_36 = nI ((8 * ro) + k) := ex_36.trans (nI_add (8 * ro) k)
                refine lv_iload hx hb dX12_tries_217 (lv_at hl 8 rfl) ?_
                refine lv_aload_n hx hb dX12_tries_219 rfl (lv_at hl 2 rfl) ?_
                refine va_get (D := E.1) (ci := 12) (v := .ref (q 49)) (C := RX12) (T := TX12) (N := 59) hx hb hts inX12 hown hK hP 0 rfl rfl 49 (by decide) fl127 (fun _ h9 => h9) rfl dX12_tries_220 ?_
                refine lv_bipush (v := 10) hx hb dX12_tries_223 (by decide) ?_
                refine lv_iload_n hx hb dX12_tries_225 rfl (lv_at hl 4 rfl) ?_
                refine lv_imul hx hb dX12_tries_226 ?_
                refine lv_topi (fun x_37 ex_37 => ?_)
                obtain rfl : x_37 = nI (10 * po) := ex_37.trans (pk_mul 10 po)
                refine lv_aload_n hx hb dX12_tries_227 rfl (lv_at hl 2 rfl) ?_
                refine va_get (D := E.1) (ci := 12) (v := .ref (q 42)) (C := RX12) (T := TX12) (N := 59) hx hb hts inX12 hown hK hP 0 rfl rfl 42 (by decide) fl106 (fun _ h9 => h9) rfl dX12_tries_228 ?_
                refine lv_iload hx hb dX12_tries_231 (lv_at hl 9 rfl) ?_
                refine va_iald hx hb hK hP 4 0 rfl rfl hi_6 dX12_tries_233 ?_
                refine lv_topi (fun x_38 ex_38 => ?_)
                obtain rfl : x_38 = nI w_9 := ex_38.trans ex_7.symm
                refine lv_iadd hx hb dX12_tries_234 ?_
                refine lv_topi (fun x_39 ex_39 => ?_)
                obtain rfl : x_39 = nI ((10 * po) + w_9) := ex_39.trans (nI_add (10 * po) w_9)
                refine va_iald hx hb hK hP 3 0 rfl rfl hi_13 dX12_tries_235 ?_
                refine lv_topi (fun x_40 ex_40 => ?_)
                refine lv_iadd hx hb dX12_tries_236 ?_
                refine lv_topi (fun x_41 ex_41 => ?_)
                have hPc := hP.sub (ws' := [(h0, .inr (12, mG q i_taped i_size i_sort i_what i_at i_end i_worth i_faultKind i_faultPlace i_got i_worked (nI dl) i_isPlanned i_bestDone i_bestCost)), (q 51, .inl (E.2.1 0, 512, .inl a_least)), (q 52, .inl (E.2.1 0, 512, .inl a_order)), (q 49, .inl (E.2.1 0, 100, .inl a_flights)), (q 42, .inl (E.2.1 0, 7, .inl a_dFrom)), (q 43, .inl (E.2.1 0, 7, .inl a_dTo)), (q 44, .inl (E.2.1 0, 7, .inl a_dDays)), (q 45, .inl (E.2.1 0, 7, .inl a_dFirst)), (q 46, .inl (E.2.1 0, 7, .inl a_dLast))]) [0, 1, 2, 3, 4, 5, 6, 7, 8] rfl
                have hDc := hD.sub (ws' := [(h0, .inr (12, mG q i_taped i_size i_sort i_what i_at i_end i_worth i_faultKind i_faultPlace i_got i_worked (nI dl) i_isPlanned i_bestDone i_bestCost)), (q 51, .inl (E.2.1 0, 512, .inl a_least)), (q 52, .inl (E.2.1 0, 512, .inl a_order)), (q 49, .inl (E.2.1 0, 100, .inl a_flights)), (q 42, .inl (E.2.1 0, 7, .inl a_dFrom)), (q 43, .inl (E.2.1 0, 7, .inl a_dTo)), (q 44, .inl (E.2.1 0, 7, .inl a_dDays)), (q 45, .inl (E.2.1 0, 7, .inl a_dFirst)), (q 46, .inl (E.2.1 0, 7, .inl a_dLast))]) [0, 1, 2, 3, 4, 5, 6, 7, 8] (by decide) rfl
                have hFc := va_free (wc := [(h0, .inr (12, mG q i_taped i_size i_sort i_what i_at i_end i_worth i_faultKind i_faultPlace i_got i_worked (nI dl) i_isPlanned i_bestDone i_bestCost)), (q 51, .inl (E.2.1 0, 512, .inl a_least)), (q 52, .inl (E.2.1 0, 512, .inl a_order)), (q 49, .inl (E.2.1 0, 100, .inl a_flights)), (q 42, .inl (E.2.1 0, 7, .inl a_dFrom)), (q 43, .inl (E.2.1 0, 7, .inl a_dTo)), (q 44, .inl (E.2.1 0, 7, .inl a_dDays)), (q 45, .inl (E.2.1 0, 7, .inl a_dFirst)), (q 46, .inl (E.2.1 0, 7, .inl a_dLast))]) hD hS hA [0, 1, 2, 3, 4, 5, 6, 7, 8] rfl
                refine va_callv (va_runV (As := [.int (nI cr), .int (nI w_26), .int x_30, .int (nI w_33), .int (nI ((8 * ro) + k)), .int x_41]) (rest := []) ⟨hx, hb, hml, hown, hts⟩ (c_X12_tries3 l E h0 q i_taped i_size i_sort i_what i_at i_end i_worth i_faultKind i_faultPlace i_got i_worked i_isPlanned i_bestDone i_bestCost dl cr w_26 w_33 ((8 * ro) + k) a_least a_order a_flights a_dFrom a_dTo a_dDays a_dFirst a_dLast x_30 x_41 H.size hcr (by omega) hw_34 hdl hw_34b (dg_step hro hlt) hI_order hI_dFrom hI_dTo) (cwV 6 hts gX12_tries_X12_tries rfl rfl rfl hdV_X12_tries ⟨Nat.le_of_ble_eq_true rfl, Nat.le_of_ble_eq_true rfl⟩) ⟨pcW_blind, va_recv hK hPc (ci := 12) (q0 := 0) rfl rfl, (pcW_pre hPc hkn hDc hst hS hFc)⟩ rfl rfl hl.1 rfl (lv_room (Nat.le_of_ble_eq_true rfl)) dX12_tries_237 ⟨Nat.le_of_ble_eq_true rfl, Nat.le_of_ble_eq_true rfl⟩) hS (fun q _ h => hFc q h) hFc (fun u t H1 locs ht hvm hw_43 hB hz1 hk1 hS => ?_)
                obtain ⟨u_44, u_45⟩ := u
                obtain ⟨hf_46, hP1, hD1⟩ := hB
                rw [ht] at hP1
                try dsimp only at hw_43
                obtain ⟨hP, hD⟩ := va_join (wr := []) (w1 := [(h0, .inr (12, mG q i_taped i_size i_sort i_what i_at i_end i_worth i_faultKind i_faultPlace i_got i_worked (nI dl) i_isPlanned i_bestDone i_bestCost)), (q 51, .inl (E.2.1 0, 512, .inl u_44)), (q 52, .inl (E.2.1 0, 512, .inl u_45)), (q 49, .inl (E.2.1 0, 100, .inl a_flights)), (q 42, .inl (E.2.1 0, 7, .inl a_dFrom)), (q 43, .inl (E.2.1 0, 7, .inl a_dTo)), (q 44, .inl (E.2.1 0, 7, .inl a_dDays)), (q 45, .inl (E.2.1 0, 7, .inl a_dFirst)), (q 46, .inl (E.2.1 0, 7, .inl a_dLast))]) hP hD [0, 1, 2, 3, 4, 5, 6, 7, 8] [] rfl rfl (by decide) (by decide) hk1 hFc hP1 hD1
                generalize H1 = H at hP hS ⊢
                have hP : va_P E.1 vwCl [(h0, .inr (12, mG q i_taped i_size i_sort i_what i_at i_end i_worth i_faultKind i_faultPlace i_got i_worked (nI dl) i_isPlanned i_bestDone i_bestCost)), (q 51, .inl (E.2.1 0, 512, .inl u_44)), (q 52, .inl (E.2.1 0, 512, .inl u_45)), (q 49, .inl (E.2.1 0, 100, .inl a_flights)), (q 42, .inl (E.2.1 0, 7, .inl a_dFrom)), (q 43, .inl (E.2.1 0, 7, .inl a_dTo)), (q 44, .inl (E.2.1 0, 7, .inl a_dDays)), (q 45, .inl (E.2.1 0, 7, .inl a_dFirst)), (q 46, .inl (E.2.1 0, 7, .inl a_dLast))] H := hP
                have hD : va_D A [(h0, .inr (12, mG q i_taped i_size i_sort i_what i_at i_end i_worth i_faultKind i_faultPlace i_got i_worked (nI dl) i_isPlanned i_bestDone i_bestCost)), (q 51, .inl (E.2.1 0, 512, .inl u_44)), (q 52, .inl (E.2.1 0, 512, .inl u_45)), (q 49, .inl (E.2.1 0, 100, .inl a_flights)), (q 42, .inl (E.2.1 0, 7, .inl a_dFrom)), (q 43, .inl (E.2.1 0, 7, .inl a_dTo)), (q 44, .inl (E.2.1 0, 7, .inl a_dDays)), (q 45, .inl (E.2.1 0, 7, .inl a_dFirst)), (q 46, .inl (E.2.1 0, 7, .inl a_dLast))] := hD
                refine lv_iinc (v := (nI (k + 1))) (lv' := [(8, .int (nI (k + 1))), (10, .int x_21), (9, .int x_18), (0, .ref h0), (1, .int (nI cr)), (2, .int (nI po)), (3, .int da), (4, .int (nI se_)), (5, .int (nI ro)), (6, .int co_)]) hx hb dX12_tries_240 hl (k := 9) rfl (show nI k + 1 = nI (k + 1) from nI_1 k) (by decide) rfl (fun ls hl => ?_)
                refine lv_goto (tgt := 78) hx hb dX12_tries_243 (by decide) ?_
                exact ih (k + 1) u_44 u_45 _ _ _ (by omega) (by omega) hf_46 (hP.sub [0, 1, 2, 3, 4, 5, 6, 7, 8] rfl) (hD.sub [0, 1, 2, 3, 4, 5, 6, 7, 8] (by decide) rfl) hS (lv_sub hl [3, 4, 5, 6, 7, 8, 9, 0] rfl)
              · refine lv_goto (tgt := 240) hx hb dX12_tries_180 (by decide) ?_
                refine lv_iinc (v := (nI (k + 1))) (lv' := [(8, .int (nI (k + 1))), (10, .int x_21), (9, .int x_18), (0, .ref h0), (1, .int (nI cr)), (2, .int (nI po)), (3, .int da), (4, .int (nI se_)), (5, .int (nI ro)), (6, .int co_)]) hx hb dX12_tries_240 hl (k := 9) rfl (show nI k + 1 = nI (k + 1) from nI_1 k) (by decide) rfl (fun ls hl => ?_)
                refine lv_goto (tgt := 78) hx hb dX12_tries_243 (by decide) ?_
                exact ih (k + 1) a_least a_order _ _ _ (by omega) (by omega) hI_order (hP.sub [0, 1, 2, 3, 4, 5, 6, 7, 8] rfl) (hD.sub [0, 1, 2, 3, 4, 5, 6, 7, 8] (by decide) rfl) hS (lv_sub hl [3, 4, 5, 6, 7, 8, 9, 0] rfl)
            · refine lv_iload hx hb dX12_tries_154 (lv_at hl 0 rfl) ?_
              refine lv_goto (tgt := 166) hx hb dX12_tries_156 (by decide) ?_
              refine lv_istore (lv' := [(10, .int x_18), (9, .int x_18), (0, .ref h0), (1, .int (nI cr)), (2, .int (nI po)), (3, .int da), (4, .int (nI se_)), (5, .int (nI ro)), (6, .int co_), (8, .int (nI k))]) hx hb dX12_tries_166 hl (by decide) rfl (fun ls hl => ?_)
              refine lv_iload hx hb dX12_tries_168 (lv_at hl 0 rfl) ?_
              refine lv_aload_n hx hb dX12_tries_170 rfl (lv_at hl 2 rfl) ?_
              refine va_get (D := E.1) (ci := 12) (v := .ref (q 46)) (C := RX12) (T := TX12) (N := 59) hx hb hts inX12 hown hK hP 0 rfl rfl 46 (by decide) fl118 (fun _ h9 => h9) rfl dX12_tries_171 ?_
              refine lv_iload hx hb dX12_tries_174 (lv_at hl 9 rfl) ?_
              refine va_iald hx hb hK hP 8 0 rfl rfl hi_6 dX12_tries_176 ?_
              refine lv_topi (fun x_47 ex_47 => ?_)
              refine lv_icmp_le (tgt := 183) hx hb dX12_tries_177 (by decide) (fun c_48 => ?_) (fun c_48 => ?_)
              · refine lv_aload_n hx hb dX12_tries_183 rfl (lv_at hl 2 rfl) ?_
                refine lv_iload_n hx hb dX12_tries_184 rfl (lv_at hl 3 rfl) ?_
                refine lv_aload_n hx hb dX12_tries_185 rfl (lv_at hl 2 rfl) ?_
                refine va_get (D := E.1) (ci := 12) (v := .ref (q 43)) (C := RX12) (T := TX12) (N := 59) hx hb hts inX12 hown hK hP 0 rfl rfl 43 (by decide) fl109 (fun _ h9 => h9) rfl dX12_tries_186 ?_
                refine lv_iload hx hb dX12_tries_189 (lv_at hl 9 rfl) ?_
                refine va_iald hx hb hK hP 5 0 rfl rfl hi_6 dX12_tries_191 ?_
                refine lv_topi (fun x_49 ex_49 => ?_)
                have hv_50 : inR x_49 0 9 = true := by rw [ex_49]; exact hI_dTo _ (vin_cl hi_6)
                obtain ⟨w_51, hw_52, ew_53⟩ := inR_nI (n := 9) (by decide) hv_50
                subst ew_53
                refine lv_iload hx hb dX12_tries_192 (lv_at hl 0 rfl) ?_
                refine lv_aload_n hx hb dX12_tries_194 rfl (lv_at hl 2 rfl) ?_
                refine va_get (D := E.1) (ci := 12) (v := .ref (q 44)) (C := RX12) (T := TX12) (N := 59) hx hb hts inX12 hown hK hP 0 rfl rfl 44 (by decide) fl112 (fun _ h9 => h9) rfl dX12_tries_195 ?_
                refine lv_iload hx hb dX12_tries_198 (lv_at hl 9 rfl) ?_
                refine va_iald hx hb hK hP 6 0 rfl rfl hi_6 dX12_tries_200 ?_
                refine lv_topi (fun x_54 ex_54 => ?_)
                refine lv_iadd hx hb dX12_tries_201 ?_
                refine lv_topi (fun x_55 ex_55 => ?_)
                refine lv_iload hx hb dX12_tries_202 (lv_at hl 6 rfl) ?_
                refine lv_iconst (v := 1) hx hb dX12_tries_204 (by decide) ?_
                refine lv_iload hx hb dX12_tries_205 (lv_at hl 9 rfl) ?_
                refine lv_ishl hx hb dX12_tries_207 ?_
                refine lv_topi (fun x_56 ex_56 => ?_)
                refine lv_ior hx hb dX12_tries_208 ?_
                refine lv_topi (fun x_57 ex_57 => ?_)
                obtain ⟨w_58, hw_59, hw_59b, hw_59e⟩ : ∃ w, w < 128 ∧ bc7 w = 2 + 1 ∧ x_57 = nI w := by rw [ex_57, ex_56]; exact tr_bit hse hlt hbc (by rw [ex_3, ex_2] at c_4; exact c_4)
                subst hw_59e
                refine lv_bipush (v := 8) hx hb dX12_tries_209 (by decide) ?_
                refine lv_iload hx hb dX12_tries_211 (lv_at hl 7 rfl) ?_
                refine lv_imul hx hb dX12_tries_213 ?_
                refine lv_topi (fun x_60 ex_60 => ?_)
                obtain rfl : x_60 = nI (8 * ro) := ex_60.trans (pk_mul 8 ro)
                refine lv_iload hx hb dX12_tries_214 (lv_at hl 9 rfl) ?_
                refine lv_iadd hx hb dX12_tries_216 ?_
                refine lv_topi (fun x_61 ex_61 => ?_)
                obtain rfl : x_61 = nI ((8 * ro) + k) := ex_61.trans (nI_add (8 * ro) k)
                refine lv_iload hx hb dX12_tries_217 (lv_at hl 8 rfl) ?_
                refine lv_aload_n hx hb dX12_tries_219 rfl (lv_at hl 2 rfl) ?_
                refine va_get (D := E.1) (ci := 12) (v := .ref (q 49)) (C := RX12) (T := TX12) (N := 59) hx hb hts inX12 hown hK hP 0 rfl rfl 49 (by decide) fl127 (fun _ h9 => h9) rfl dX12_tries_220 ?_
                refine lv_bipush (v := 10) hx hb dX12_tries_223 (by decide) ?_
                refine lv_iload_n hx hb dX12_tries_225 rfl (lv_at hl 4 rfl) ?_
                refine lv_imul hx hb dX12_tries_226 ?_
                refine lv_topi (fun x_62 ex_62 => ?_)
                obtain rfl : x_62 = nI (10 * po) := ex_62.trans (pk_mul 10 po)
                refine lv_aload_n hx hb dX12_tries_227 rfl (lv_at hl 2 rfl) ?_
                refine va_get (D := E.1) (ci := 12) (v := .ref (q 42)) (C := RX12) (T := TX12) (N := 59) hx hb hts inX12 hown hK hP 0 rfl rfl 42 (by decide) fl106 (fun _ h9 => h9) rfl dX12_tries_228 ?_
                refine lv_iload hx hb dX12_tries_231 (lv_at hl 9 rfl) ?_
                refine va_iald hx hb hK hP 4 0 rfl rfl hi_6 dX12_tries_233 ?_
                refine lv_topi (fun x_63 ex_63 => ?_)
                obtain rfl : x_63 = nI w_9 := ex_63.trans ex_7.symm
                refine lv_iadd hx hb dX12_tries_234 ?_
                refine lv_topi (fun x_64 ex_64 => ?_)
                obtain rfl : x_64 = nI ((10 * po) + w_9) := ex_64.trans (nI_add (10 * po) w_9)
                refine va_iald hx hb hK hP 3 0 rfl rfl hi_13 dX12_tries_235 ?_
                refine lv_topi (fun x_65 ex_65 => ?_)
                refine lv_iadd hx hb dX12_tries_236 ?_
                refine lv_topi (fun x_66 ex_66 => ?_)
                have hPc := hP.sub (ws' := [(h0, .inr (12, mG q i_taped i_size i_sort i_what i_at i_end i_worth i_faultKind i_faultPlace i_got i_worked (nI dl) i_isPlanned i_bestDone i_bestCost)), (q 51, .inl (E.2.1 0, 512, .inl a_least)), (q 52, .inl (E.2.1 0, 512, .inl a_order)), (q 49, .inl (E.2.1 0, 100, .inl a_flights)), (q 42, .inl (E.2.1 0, 7, .inl a_dFrom)), (q 43, .inl (E.2.1 0, 7, .inl a_dTo)), (q 44, .inl (E.2.1 0, 7, .inl a_dDays)), (q 45, .inl (E.2.1 0, 7, .inl a_dFirst)), (q 46, .inl (E.2.1 0, 7, .inl a_dLast))]) [0, 1, 2, 3, 4, 5, 6, 7, 8] rfl
                have hDc := hD.sub (ws' := [(h0, .inr (12, mG q i_taped i_size i_sort i_what i_at i_end i_worth i_faultKind i_faultPlace i_got i_worked (nI dl) i_isPlanned i_bestDone i_bestCost)), (q 51, .inl (E.2.1 0, 512, .inl a_least)), (q 52, .inl (E.2.1 0, 512, .inl a_order)), (q 49, .inl (E.2.1 0, 100, .inl a_flights)), (q 42, .inl (E.2.1 0, 7, .inl a_dFrom)), (q 43, .inl (E.2.1 0, 7, .inl a_dTo)), (q 44, .inl (E.2.1 0, 7, .inl a_dDays)), (q 45, .inl (E.2.1 0, 7, .inl a_dFirst)), (q 46, .inl (E.2.1 0, 7, .inl a_dLast))]) [0, 1, 2, 3, 4, 5, 6, 7, 8] (by decide) rfl
                have hFc := va_free (wc := [(h0, .inr (12, mG q i_taped i_size i_sort i_what i_at i_end i_worth i_faultKind i_faultPlace i_got i_worked (nI dl) i_isPlanned i_bestDone i_bestCost)), (q 51, .inl (E.2.1 0, 512, .inl a_least)), (q 52, .inl (E.2.1 0, 512, .inl a_order)), (q 49, .inl (E.2.1 0, 100, .inl a_flights)), (q 42, .inl (E.2.1 0, 7, .inl a_dFrom)), (q 43, .inl (E.2.1 0, 7, .inl a_dTo)), (q 44, .inl (E.2.1 0, 7, .inl a_dDays)), (q 45, .inl (E.2.1 0, 7, .inl a_dFirst)), (q 46, .inl (E.2.1 0, 7, .inl a_dLast))]) hD hS hA [0, 1, 2, 3, 4, 5, 6, 7, 8] rfl
                refine va_callv (va_runV (As := [.int (nI cr), .int (nI w_51), .int x_55, .int (nI w_58), .int (nI ((8 * ro) + k)), .int x_66]) (rest := []) ⟨hx, hb, hml, hown, hts⟩ (c_X12_tries3 l E h0 q i_taped i_size i_sort i_what i_at i_end i_worth i_faultKind i_faultPlace i_got i_worked i_isPlanned i_bestDone i_bestCost dl cr w_51 w_58 ((8 * ro) + k) a_least a_order a_flights a_dFrom a_dTo a_dDays a_dFirst a_dLast x_55 x_66 H.size hcr (by omega) hw_59 hdl hw_59b (dg_step hro hlt) hI_order hI_dFrom hI_dTo) (cwV 6 hts gX12_tries_X12_tries rfl rfl rfl hdV_X12_tries ⟨Nat.le_of_ble_eq_true rfl, Nat.le_of_ble_eq_true rfl⟩) ⟨pcW_blind, va_recv hK hPc (ci := 12) (q0 := 0) rfl rfl, (pcW_pre hPc hkn hDc hst hS hFc)⟩ rfl rfl hl.1 rfl (lv_room (Nat.le_of_ble_eq_true rfl)) dX12_tries_237 ⟨Nat.le_of_ble_eq_true rfl, Nat.le_of_ble_eq_true rfl⟩) hS (fun q _ h => hFc q h) hFc (fun u t H1 locs ht hvm hw_68 hB hz1 hk1 hS => ?_)
                obtain ⟨u_69, u_70⟩ := u
                obtain ⟨hf_71, hP1, hD1⟩ := hB
                rw [ht] at hP1
                try dsimp only at hw_68
                obtain ⟨hP, hD⟩ := va_join (wr := []) (w1 := [(h0, .inr (12, mG q i_taped i_size i_sort i_what i_at i_end i_worth i_faultKind i_faultPlace i_got i_worked (nI dl) i_isPlanned i_bestDone i_bestCost)), (q 51, .inl (E.2.1 0, 512, .inl u_69)), (q 52, .inl (E.2.1 0, 512, .inl u_70)), (q 49, .inl (E.2.1 0, 100, .inl a_flights)), (q 42, .inl (E.2.1 0, 7, .inl a_dFrom)), (q 43, .inl (E.2.1 0, 7, .inl a_dTo)), (q 44, .inl (E.2.1 0, 7, .inl a_dDays)), (q 45, .inl (E.2.1 0, 7, .inl a_dFirst)), (q 46, .inl (E.2.1 0, 7, .inl a_dLast))]) hP hD [0, 1, 2, 3, 4, 5, 6, 7, 8] [] rfl rfl (by decide) (by decide) hk1 hFc hP1 hD1
                generalize H1 = H at hP hS ⊢
                have hP : va_P E.1 vwCl [(h0, .inr (12, mG q i_taped i_size i_sort i_what i_at i_end i_worth i_faultKind i_faultPlace i_got i_worked (nI dl) i_isPlanned i_bestDone i_bestCost)), (q 51, .inl (E.2.1 0, 512, .inl u_69)), (q 52, .inl (E.2.1 0, 512, .inl u_70)), (q 49, .inl (E.2.1 0, 100, .inl a_flights)), (q 42, .inl (E.2.1 0, 7, .inl a_dFrom)), (q 43, .inl (E.2.1 0, 7, .inl a_dTo)), (q 44, .inl (E.2.1 0, 7, .inl a_dDays)), (q 45, .inl (E.2.1 0, 7, .inl a_dFirst)), (q 46, .inl (E.2.1 0, 7, .inl a_dLast))] H := hP
                have hD : va_D A [(h0, .inr (12, mG q i_taped i_size i_sort i_what i_at i_end i_worth i_faultKind i_faultPlace i_got i_worked (nI dl) i_isPlanned i_bestDone i_bestCost)), (q 51, .inl (E.2.1 0, 512, .inl u_69)), (q 52, .inl (E.2.1 0, 512, .inl u_70)), (q 49, .inl (E.2.1 0, 100, .inl a_flights)), (q 42, .inl (E.2.1 0, 7, .inl a_dFrom)), (q 43, .inl (E.2.1 0, 7, .inl a_dTo)), (q 44, .inl (E.2.1 0, 7, .inl a_dDays)), (q 45, .inl (E.2.1 0, 7, .inl a_dFirst)), (q 46, .inl (E.2.1 0, 7, .inl a_dLast))] := hD
                refine lv_iinc (v := (nI (k + 1))) (lv' := [(8, .int (nI (k + 1))), (10, .int x_18), (9, .int x_18), (0, .ref h0), (1, .int (nI cr)), (2, .int (nI po)), (3, .int da), (4, .int (nI se_)), (5, .int (nI ro)), (6, .int co_)]) hx hb dX12_tries_240 hl (k := 9) rfl (show nI k + 1 = nI (k + 1) from nI_1 k) (by decide) rfl (fun ls hl => ?_)
                refine lv_goto (tgt := 78) hx hb dX12_tries_243 (by decide) ?_
                exact ih (k + 1) u_69 u_70 _ _ _ (by omega) (by omega) hf_71 (hP.sub [0, 1, 2, 3, 4, 5, 6, 7, 8] rfl) (hD.sub [0, 1, 2, 3, 4, 5, 6, 7, 8] (by decide) rfl) hS (lv_sub hl [3, 4, 5, 6, 7, 8, 9, 0] rfl)
              · refine lv_goto (tgt := 240) hx hb dX12_tries_180 (by decide) ?_
                refine lv_iinc (v := (nI (k + 1))) (lv' := [(8, .int (nI (k + 1))), (10, .int x_18), (9, .int x_18), (0, .ref h0), (1, .int (nI cr)), (2, .int (nI po)), (3, .int da), (4, .int (nI se_)), (5, .int (nI ro)), (6, .int co_)]) hx hb dX12_tries_240 hl (k := 9) rfl (show nI k + 1 = nI (k + 1) from nI_1 k) (by decide) rfl (fun ls hl => ?_)
                refine lv_goto (tgt := 78) hx hb dX12_tries_243 (by decide) ?_
                exact ih (k + 1) a_least a_order _ _ _ (by omega) (by omega) hI_order (hP.sub [0, 1, 2, 3, 4, 5, 6, 7, 8] rfl) (hD.sub [0, 1, 2, 3, 4, 5, 6, 7, 8] (by decide) rfl) hS (lv_sub hl [3, 4, 5, 6, 7, 8, 9, 0] rfl)
          · refine lv_iconst (v := 0) hx hb dX12_tries_134 (by decide) ?_
            refine lv_goto (tgt := 139) hx hb dX12_tries_135 (by decide) ?_
            refine lv_iadd hx hb dX12_tries_139 ?_
            refine lv_topi (fun x_72 ex_72 => ?_)
            refine lv_istore (lv' := [(9, .int x_72), (0, .ref h0), (1, .int (nI cr)), (2, .int (nI po)), (3, .int da), (4, .int (nI se_)), (5, .int (nI ro)), (6, .int co_), (8, .int (nI k))]) hx hb dX12_tries_140 hl (by decide) rfl (fun ls hl => ?_)
            refine lv_iload hx hb dX12_tries_142 (lv_at hl 0 rfl) ?_
            refine lv_aload_n hx hb dX12_tries_144 rfl (lv_at hl 1 rfl) ?_
            refine va_get (D := E.1) (ci := 12) (v := .ref (q 45)) (C := RX12) (T := TX12) (N := 59) hx hb hts inX12 hown hK hP 0 rfl rfl 45 (by decide) fl115 (fun _ h9 => h9) rfl dX12_tries_145 ?_
            refine lv_iload hx hb dX12_tries_148 (lv_at hl 8 rfl) ?_
            refine va_iald hx hb hK hP 7 0 rfl rfl hi_6 dX12_tries_150 ?_
            refine lv_topi (fun x_73 ex_73 => ?_)
            refine lv_icmp_le (tgt := 159) hx hb dX12_tries_151 (by decide) (fun c_74 => ?_) (fun c_74 => ?_)
            · refine lv_aload_n hx hb dX12_tries_159 rfl (lv_at hl 1 rfl) ?_
              refine va_get (D := E.1) (ci := 12) (v := .ref (q 45)) (C := RX12) (T := TX12) (N := 59) hx hb hts inX12 hown hK hP 0 rfl rfl 45 (by decide) fl115 (fun _ h9 => h9) rfl dX12_tries_160 ?_
              refine lv_iload hx hb dX12_tries_163 (lv_at hl 8 rfl) ?_
              refine va_iald hx hb hK hP 7 0 rfl rfl hi_6 dX12_tries_165 ?_
              refine lv_topi (fun x_75 ex_75 => ?_)
              refine lv_istore (lv' := [(10, .int x_75), (9, .int x_72), (0, .ref h0), (1, .int (nI cr)), (2, .int (nI po)), (3, .int da), (4, .int (nI se_)), (5, .int (nI ro)), (6, .int co_), (8, .int (nI k))]) hx hb dX12_tries_166 hl (by decide) rfl (fun ls hl => ?_)
              refine lv_iload hx hb dX12_tries_168 (lv_at hl 0 rfl) ?_
              refine lv_aload_n hx hb dX12_tries_170 rfl (lv_at hl 2 rfl) ?_
              refine va_get (D := E.1) (ci := 12) (v := .ref (q 46)) (C := RX12) (T := TX12) (N := 59) hx hb hts inX12 hown hK hP 0 rfl rfl 46 (by decide) fl118 (fun _ h9 => h9) rfl dX12_tries_171 ?_
              refine lv_iload hx hb dX12_tries_174 (lv_at hl 9 rfl) ?_
              refine va_iald hx hb hK hP 8 0 rfl rfl hi_6 dX12_tries_176 ?_
              refine lv_topi (fun x_76 ex_76 => ?_)
              refine lv_icmp_le (tgt := 183) hx hb dX12_tries_177 (by decide) (fun c_77 => ?_) (fun c_77 => ?_)
              · refine lv_aload_n hx hb dX12_tries_183 rfl (lv_at hl 2 rfl) ?_
                refine lv_iload_n hx hb dX12_tries_184 rfl (lv_at hl 3 rfl) ?_
                refine lv_aload_n hx hb dX12_tries_185 rfl (lv_at hl 2 rfl) ?_
                refine va_get (D := E.1) (ci := 12) (v := .ref (q 43)) (C := RX12) (T := TX12) (N := 59) hx hb hts inX12 hown hK hP 0 rfl rfl 43 (by decide) fl109 (fun _ h9 => h9) rfl dX12_tries_186 ?_
                refine lv_iload hx hb dX12_tries_189 (lv_at hl 9 rfl) ?_
                refine va_iald hx hb hK hP 5 0 rfl rfl hi_6 dX12_tries_191 ?_
                refine lv_topi (fun x_78 ex_78 => ?_)
                have hv_79 : inR x_78 0 9 = true := by rw [ex_78]; exact hI_dTo _ (vin_cl hi_6)
                obtain ⟨w_80, hw_81, ew_82⟩ := inR_nI (n := 9) (by decide) hv_79
                subst ew_82
                refine lv_iload hx hb dX12_tries_192 (lv_at hl 0 rfl) ?_
                refine lv_aload_n hx hb dX12_tries_194 rfl (lv_at hl 2 rfl) ?_
                refine va_get (D := E.1) (ci := 12) (v := .ref (q 44)) (C := RX12) (T := TX12) (N := 59) hx hb hts inX12 hown hK hP 0 rfl rfl 44 (by decide) fl112 (fun _ h9 => h9) rfl dX12_tries_195 ?_
                refine lv_iload hx hb dX12_tries_198 (lv_at hl 9 rfl) ?_
                refine va_iald hx hb hK hP 6 0 rfl rfl hi_6 dX12_tries_200 ?_
                refine lv_topi (fun x_83 ex_83 => ?_)
                refine lv_iadd hx hb dX12_tries_201 ?_
                refine lv_topi (fun x_84 ex_84 => ?_)
                refine lv_iload hx hb dX12_tries_202 (lv_at hl 6 rfl) ?_
                refine lv_iconst (v := 1) hx hb dX12_tries_204 (by decide) ?_
                refine lv_iload hx hb dX12_tries_205 (lv_at hl 9 rfl) ?_
                refine lv_ishl hx hb dX12_tries_207 ?_
                refine lv_topi (fun x_85 ex_85 => ?_)
                refine lv_ior hx hb dX12_tries_208 ?_
                refine lv_topi (fun x_86 ex_86 => ?_)
                obtain ⟨w_87, hw_88, hw_88b, hw_88e⟩ : ∃ w, w < 128 ∧ bc7 w = 2 + 1 ∧ x_86 = nI w := by rw [ex_86, ex_85]; exact tr_bit hse hlt hbc (by rw [ex_3, ex_2] at c_4; exact c_4)
                subst hw_88e
                refine lv_bipush (v := 8) hx hb dX12_tries_209 (by decide) ?_
                refine lv_iload hx hb dX12_tries_211 (lv_at hl 7 rfl) ?_
                refine lv_imul hx hb dX12_tries_213 ?_
                refine lv_topi (fun x_89 ex_89 => ?_)
                obtain rfl : x_89 = nI (8 * ro) := ex_89.trans (pk_mul 8 ro)
                refine lv_iload hx hb dX12_tries_214 (lv_at hl 9 rfl) ?_
                refine lv_iadd hx hb dX12_tries_216 ?_
                refine lv_topi (fun x_90 ex_90 => ?_)
                obtain rfl : x_90 = nI ((8 * ro) + k) := ex_90.trans (nI_add (8 * ro) k)
                refine lv_iload hx hb dX12_tries_217 (lv_at hl 8 rfl) ?_
                refine lv_aload_n hx hb dX12_tries_219 rfl (lv_at hl 2 rfl) ?_
                refine va_get (D := E.1) (ci := 12) (v := .ref (q 49)) (C := RX12) (T := TX12) (N := 59) hx hb hts inX12 hown hK hP 0 rfl rfl 49 (by decide) fl127 (fun _ h9 => h9) rfl dX12_tries_220 ?_
                refine lv_bipush (v := 10) hx hb dX12_tries_223 (by decide) ?_
                refine lv_iload_n hx hb dX12_tries_225 rfl (lv_at hl 4 rfl) ?_
                refine lv_imul hx hb dX12_tries_226 ?_
                refine lv_topi (fun x_91 ex_91 => ?_)
                obtain rfl : x_91 = nI (10 * po) := ex_91.trans (pk_mul 10 po)
                refine lv_aload_n hx hb dX12_tries_227 rfl (lv_at hl 2 rfl) ?_
                refine va_get (D := E.1) (ci := 12) (v := .ref (q 42)) (C := RX12) (T := TX12) (N := 59) hx hb hts inX12 hown hK hP 0 rfl rfl 42 (by decide) fl106 (fun _ h9 => h9) rfl dX12_tries_228 ?_
                refine lv_iload hx hb dX12_tries_231 (lv_at hl 9 rfl) ?_
                refine va_iald hx hb hK hP 4 0 rfl rfl hi_6 dX12_tries_233 ?_
                refine lv_topi (fun x_92 ex_92 => ?_)
                obtain rfl : x_92 = nI w_9 := ex_92.trans ex_7.symm
                refine lv_iadd hx hb dX12_tries_234 ?_
                refine lv_topi (fun x_93 ex_93 => ?_)
                obtain rfl : x_93 = nI ((10 * po) + w_9) := ex_93.trans (nI_add (10 * po) w_9)
                refine va_iald hx hb hK hP 3 0 rfl rfl hi_13 dX12_tries_235 ?_
                refine lv_topi (fun x_94 ex_94 => ?_)
                refine lv_iadd hx hb dX12_tries_236 ?_
                refine lv_topi (fun x_95 ex_95 => ?_)
                have hPc := hP.sub (ws' := [(h0, .inr (12, mG q i_taped i_size i_sort i_what i_at i_end i_worth i_faultKind i_faultPlace i_got i_worked (nI dl) i_isPlanned i_bestDone i_bestCost)), (q 51, .inl (E.2.1 0, 512, .inl a_least)), (q 52, .inl (E.2.1 0, 512, .inl a_order)), (q 49, .inl (E.2.1 0, 100, .inl a_flights)), (q 42, .inl (E.2.1 0, 7, .inl a_dFrom)), (q 43, .inl (E.2.1 0, 7, .inl a_dTo)), (q 44, .inl (E.2.1 0, 7, .inl a_dDays)), (q 45, .inl (E.2.1 0, 7, .inl a_dFirst)), (q 46, .inl (E.2.1 0, 7, .inl a_dLast))]) [0, 1, 2, 3, 4, 5, 6, 7, 8] rfl
                have hDc := hD.sub (ws' := [(h0, .inr (12, mG q i_taped i_size i_sort i_what i_at i_end i_worth i_faultKind i_faultPlace i_got i_worked (nI dl) i_isPlanned i_bestDone i_bestCost)), (q 51, .inl (E.2.1 0, 512, .inl a_least)), (q 52, .inl (E.2.1 0, 512, .inl a_order)), (q 49, .inl (E.2.1 0, 100, .inl a_flights)), (q 42, .inl (E.2.1 0, 7, .inl a_dFrom)), (q 43, .inl (E.2.1 0, 7, .inl a_dTo)), (q 44, .inl (E.2.1 0, 7, .inl a_dDays)), (q 45, .inl (E.2.1 0, 7, .inl a_dFirst)), (q 46, .inl (E.2.1 0, 7, .inl a_dLast))]) [0, 1, 2, 3, 4, 5, 6, 7, 8] (by decide) rfl
                have hFc := va_free (wc := [(h0, .inr (12, mG q i_taped i_size i_sort i_what i_at i_end i_worth i_faultKind i_faultPlace i_got i_worked (nI dl) i_isPlanned i_bestDone i_bestCost)), (q 51, .inl (E.2.1 0, 512, .inl a_least)), (q 52, .inl (E.2.1 0, 512, .inl a_order)), (q 49, .inl (E.2.1 0, 100, .inl a_flights)), (q 42, .inl (E.2.1 0, 7, .inl a_dFrom)), (q 43, .inl (E.2.1 0, 7, .inl a_dTo)), (q 44, .inl (E.2.1 0, 7, .inl a_dDays)), (q 45, .inl (E.2.1 0, 7, .inl a_dFirst)), (q 46, .inl (E.2.1 0, 7, .inl a_dLast))]) hD hS hA [0, 1, 2, 3, 4, 5, 6, 7, 8] rfl
                refine va_callv (va_runV (As := [.int (nI cr), .int (nI w_80), .int x_84, .int (nI w_87), .int (nI ((8 * ro) + k)), .int x_95]) (rest := []) ⟨hx, hb, hml, hown, hts⟩ (c_X12_tries3 l E h0 q i_taped i_size i_sort i_what i_at i_end i_worth i_faultKind i_faultPlace i_got i_worked i_isPlanned i_bestDone i_bestCost dl cr w_80 w_87 ((8 * ro) + k) a_least a_order a_flights a_dFrom a_dTo a_dDays a_dFirst a_dLast x_84 x_95 H.size hcr (by omega) hw_88 hdl hw_88b (dg_step hro hlt) hI_order hI_dFrom hI_dTo) (cwV 6 hts gX12_tries_X12_tries rfl rfl rfl hdV_X12_tries ⟨Nat.le_of_ble_eq_true rfl, Nat.le_of_ble_eq_true rfl⟩) ⟨pcW_blind, va_recv hK hPc (ci := 12) (q0 := 0) rfl rfl, (pcW_pre hPc hkn hDc hst hS hFc)⟩ rfl rfl hl.1 rfl (lv_room (Nat.le_of_ble_eq_true rfl)) dX12_tries_237 ⟨Nat.le_of_ble_eq_true rfl, Nat.le_of_ble_eq_true rfl⟩) hS (fun q _ h => hFc q h) hFc (fun u t H1 locs ht hvm hw_97 hB hz1 hk1 hS => ?_)
                obtain ⟨u_98, u_99⟩ := u
                obtain ⟨hf_100, hP1, hD1⟩ := hB
                rw [ht] at hP1
                try dsimp only at hw_97
                obtain ⟨hP, hD⟩ := va_join (wr := []) (w1 := [(h0, .inr (12, mG q i_taped i_size i_sort i_what i_at i_end i_worth i_faultKind i_faultPlace i_got i_worked (nI dl) i_isPlanned i_bestDone i_bestCost)), (q 51, .inl (E.2.1 0, 512, .inl u_98)), (q 52, .inl (E.2.1 0, 512, .inl u_99)), (q 49, .inl (E.2.1 0, 100, .inl a_flights)), (q 42, .inl (E.2.1 0, 7, .inl a_dFrom)), (q 43, .inl (E.2.1 0, 7, .inl a_dTo)), (q 44, .inl (E.2.1 0, 7, .inl a_dDays)), (q 45, .inl (E.2.1 0, 7, .inl a_dFirst)), (q 46, .inl (E.2.1 0, 7, .inl a_dLast))]) hP hD [0, 1, 2, 3, 4, 5, 6, 7, 8] [] rfl rfl (by decide) (by decide) hk1 hFc hP1 hD1
                generalize H1 = H at hP hS ⊢
                have hP : va_P E.1 vwCl [(h0, .inr (12, mG q i_taped i_size i_sort i_what i_at i_end i_worth i_faultKind i_faultPlace i_got i_worked (nI dl) i_isPlanned i_bestDone i_bestCost)), (q 51, .inl (E.2.1 0, 512, .inl u_98)), (q 52, .inl (E.2.1 0, 512, .inl u_99)), (q 49, .inl (E.2.1 0, 100, .inl a_flights)), (q 42, .inl (E.2.1 0, 7, .inl a_dFrom)), (q 43, .inl (E.2.1 0, 7, .inl a_dTo)), (q 44, .inl (E.2.1 0, 7, .inl a_dDays)), (q 45, .inl (E.2.1 0, 7, .inl a_dFirst)), (q 46, .inl (E.2.1 0, 7, .inl a_dLast))] H := hP
                have hD : va_D A [(h0, .inr (12, mG q i_taped i_size i_sort i_what i_at i_end i_worth i_faultKind i_faultPlace i_got i_worked (nI dl) i_isPlanned i_bestDone i_bestCost)), (q 51, .inl (E.2.1 0, 512, .inl u_98)), (q 52, .inl (E.2.1 0, 512, .inl u_99)), (q 49, .inl (E.2.1 0, 100, .inl a_flights)), (q 42, .inl (E.2.1 0, 7, .inl a_dFrom)), (q 43, .inl (E.2.1 0, 7, .inl a_dTo)), (q 44, .inl (E.2.1 0, 7, .inl a_dDays)), (q 45, .inl (E.2.1 0, 7, .inl a_dFirst)), (q 46, .inl (E.2.1 0, 7, .inl a_dLast))] := hD
                refine lv_iinc (v := (nI (k + 1))) (lv' := [(8, .int (nI (k + 1))), (10, .int x_75), (9, .int x_72), (0, .ref h0), (1, .int (nI cr)), (2, .int (nI po)), (3, .int da), (4, .int (nI se_)), (5, .int (nI ro)), (6, .int co_)]) hx hb dX12_tries_240 hl (k := 9) rfl (show nI k + 1 = nI (k + 1) from nI_1 k) (by decide) rfl (fun ls hl => ?_)
                refine lv_goto (tgt := 78) hx hb dX12_tries_243 (by decide) ?_
                exact ih (k + 1) u_98 u_99 _ _ _ (by omega) (by omega) hf_100 (hP.sub [0, 1, 2, 3, 4, 5, 6, 7, 8] rfl) (hD.sub [0, 1, 2, 3, 4, 5, 6, 7, 8] (by decide) rfl) hS (lv_sub hl [3, 4, 5, 6, 7, 8, 9, 0] rfl)
              · refine lv_goto (tgt := 240) hx hb dX12_tries_180 (by decide) ?_
                refine lv_iinc (v := (nI (k + 1))) (lv' := [(8, .int (nI (k + 1))), (10, .int x_75), (9, .int x_72), (0, .ref h0), (1, .int (nI cr)), (2, .int (nI po)), (3, .int da), (4, .int (nI se_)), (5, .int (nI ro)), (6, .int co_)]) hx hb dX12_tries_240 hl (k := 9) rfl (show nI k + 1 = nI (k + 1) from nI_1 k) (by decide) rfl (fun ls hl => ?_)
                refine lv_goto (tgt := 78) hx hb dX12_tries_243 (by decide) ?_
                exact ih (k + 1) a_least a_order _ _ _ (by omega) (by omega) hI_order (hP.sub [0, 1, 2, 3, 4, 5, 6, 7, 8] rfl) (hD.sub [0, 1, 2, 3, 4, 5, 6, 7, 8] (by decide) rfl) hS (lv_sub hl [3, 4, 5, 6, 7, 8, 9, 0] rfl)
            · refine lv_iload hx hb dX12_tries_154 (lv_at hl 0 rfl) ?_
              refine lv_goto (tgt := 166) hx hb dX12_tries_156 (by decide) ?_
              refine lv_istore (lv' := [(10, .int x_72), (9, .int x_72), (0, .ref h0), (1, .int (nI cr)), (2, .int (nI po)), (3, .int da), (4, .int (nI se_)), (5, .int (nI ro)), (6, .int co_), (8, .int (nI k))]) hx hb dX12_tries_166 hl (by decide) rfl (fun ls hl => ?_)
              refine lv_iload hx hb dX12_tries_168 (lv_at hl 0 rfl) ?_
              refine lv_aload_n hx hb dX12_tries_170 rfl (lv_at hl 2 rfl) ?_
              refine va_get (D := E.1) (ci := 12) (v := .ref (q 46)) (C := RX12) (T := TX12) (N := 59) hx hb hts inX12 hown hK hP 0 rfl rfl 46 (by decide) fl118 (fun _ h9 => h9) rfl dX12_tries_171 ?_
              refine lv_iload hx hb dX12_tries_174 (lv_at hl 9 rfl) ?_
              refine va_iald hx hb hK hP 8 0 rfl rfl hi_6 dX12_tries_176 ?_
              refine lv_topi (fun x_101 ex_101 => ?_)
              refine lv_icmp_le (tgt := 183) hx hb dX12_tries_177 (by decide) (fun c_102 => ?_) (fun c_102 => ?_)
              · refine lv_aload_n hx hb dX12_tries_183 rfl (lv_at hl 2 rfl) ?_
                refine lv_iload_n hx hb dX12_tries_184 rfl (lv_at hl 3 rfl) ?_
                refine lv_aload_n hx hb dX12_tries_185 rfl (lv_at hl 2 rfl) ?_
                refine va_get (D := E.1) (ci := 12) (v := .ref (q 43)) (C := RX12) (T := TX12) (N := 59) hx hb hts inX12 hown hK hP 0 rfl rfl 43 (by decide) fl109 (fun _ h9 => h9) rfl dX12_tries_186 ?_
                refine lv_iload hx hb dX12_tries_189 (lv_at hl 9 rfl) ?_
                refine va_iald hx hb hK hP 5 0 rfl rfl hi_6 dX12_tries_191 ?_
                refine lv_topi (fun x_103 ex_103 => ?_)
                have hv_104 : inR x_103 0 9 = true := by rw [ex_103]; exact hI_dTo _ (vin_cl hi_6)
                obtain ⟨w_105, hw_106, ew_107⟩ := inR_nI (n := 9) (by decide) hv_104
                subst ew_107
                refine lv_iload hx hb dX12_tries_192 (lv_at hl 0 rfl) ?_
                refine lv_aload_n hx hb dX12_tries_194 rfl (lv_at hl 2 rfl) ?_
                refine va_get (D := E.1) (ci := 12) (v := .ref (q 44)) (C := RX12) (T := TX12) (N := 59) hx hb hts inX12 hown hK hP 0 rfl rfl 44 (by decide) fl112 (fun _ h9 => h9) rfl dX12_tries_195 ?_
                refine lv_iload hx hb dX12_tries_198 (lv_at hl 9 rfl) ?_
                refine va_iald hx hb hK hP 6 0 rfl rfl hi_6 dX12_tries_200 ?_
                refine lv_topi (fun x_108 ex_108 => ?_)
                refine lv_iadd hx hb dX12_tries_201 ?_
                refine lv_topi (fun x_109 ex_109 => ?_)
                refine lv_iload hx hb dX12_tries_202 (lv_at hl 6 rfl) ?_
                refine lv_iconst (v := 1) hx hb dX12_tries_204 (by decide) ?_
                refine lv_iload hx hb dX12_tries_205 (lv_at hl 9 rfl) ?_
                refine lv_ishl hx hb dX12_tries_207 ?_
                refine lv_topi (fun x_110 ex_110 => ?_)
                refine lv_ior hx hb dX12_tries_208 ?_
                refine lv_topi (fun x_111 ex_111 => ?_)
                obtain ⟨w_112, hw_113, hw_113b, hw_113e⟩ : ∃ w, w < 128 ∧ bc7 w = 2 + 1 ∧ x_111 = nI w := by rw [ex_111, ex_110]; exact tr_bit hse hlt hbc (by rw [ex_3, ex_2] at c_4; exact c_4)
                subst hw_113e
                refine lv_bipush (v := 8) hx hb dX12_tries_209 (by decide) ?_
                refine lv_iload hx hb dX12_tries_211 (lv_at hl 7 rfl) ?_
                refine lv_imul hx hb dX12_tries_213 ?_
                refine lv_topi (fun x_114 ex_114 => ?_)
                obtain rfl : x_114 = nI (8 * ro) := ex_114.trans (pk_mul 8 ro)
                refine lv_iload hx hb dX12_tries_214 (lv_at hl 9 rfl) ?_
                refine lv_iadd hx hb dX12_tries_216 ?_
                refine lv_topi (fun x_115 ex_115 => ?_)
                obtain rfl : x_115 = nI ((8 * ro) + k) := ex_115.trans (nI_add (8 * ro) k)
                refine lv_iload hx hb dX12_tries_217 (lv_at hl 8 rfl) ?_
                refine lv_aload_n hx hb dX12_tries_219 rfl (lv_at hl 2 rfl) ?_
                refine va_get (D := E.1) (ci := 12) (v := .ref (q 49)) (C := RX12) (T := TX12) (N := 59) hx hb hts inX12 hown hK hP 0 rfl rfl 49 (by decide) fl127 (fun _ h9 => h9) rfl dX12_tries_220 ?_
                refine lv_bipush (v := 10) hx hb dX12_tries_223 (by decide) ?_
                refine lv_iload_n hx hb dX12_tries_225 rfl (lv_at hl 4 rfl) ?_
                refine lv_imul hx hb dX12_tries_226 ?_
                refine lv_topi (fun x_116 ex_116 => ?_)
                obtain rfl : x_116 = nI (10 * po) := ex_116.trans (pk_mul 10 po)
                refine lv_aload_n hx hb dX12_tries_227 rfl (lv_at hl 2 rfl) ?_
                refine va_get (D := E.1) (ci := 12) (v := .ref (q 42)) (C := RX12) (T := TX12) (N := 59) hx hb hts inX12 hown hK hP 0 rfl rfl 42 (by decide) fl106 (fun _ h9 => h9) rfl dX12_tries_228 ?_
                refine lv_iload hx hb dX12_tries_231 (lv_at hl 9 rfl) ?_
                refine va_iald hx hb hK hP 4 0 rfl rfl hi_6 dX12_tries_233 ?_
                refine lv_topi (fun x_117 ex_117 => ?_)
                obtain rfl : x_117 = nI w_9 := ex_117.trans ex_7.symm
                refine lv_iadd hx hb dX12_tries_234 ?_
                refine lv_topi (fun x_118 ex_118 => ?_)
                obtain rfl : x_118 = nI ((10 * po) + w_9) := ex_118.trans (nI_add (10 * po) w_9)
                refine va_iald hx hb hK hP 3 0 rfl rfl hi_13 dX12_tries_235 ?_
                refine lv_topi (fun x_119 ex_119 => ?_)
                refine lv_iadd hx hb dX12_tries_236 ?_
                refine lv_topi (fun x_120 ex_120 => ?_)
                have hPc := hP.sub (ws' := [(h0, .inr (12, mG q i_taped i_size i_sort i_what i_at i_end i_worth i_faultKind i_faultPlace i_got i_worked (nI dl) i_isPlanned i_bestDone i_bestCost)), (q 51, .inl (E.2.1 0, 512, .inl a_least)), (q 52, .inl (E.2.1 0, 512, .inl a_order)), (q 49, .inl (E.2.1 0, 100, .inl a_flights)), (q 42, .inl (E.2.1 0, 7, .inl a_dFrom)), (q 43, .inl (E.2.1 0, 7, .inl a_dTo)), (q 44, .inl (E.2.1 0, 7, .inl a_dDays)), (q 45, .inl (E.2.1 0, 7, .inl a_dFirst)), (q 46, .inl (E.2.1 0, 7, .inl a_dLast))]) [0, 1, 2, 3, 4, 5, 6, 7, 8] rfl
                have hDc := hD.sub (ws' := [(h0, .inr (12, mG q i_taped i_size i_sort i_what i_at i_end i_worth i_faultKind i_faultPlace i_got i_worked (nI dl) i_isPlanned i_bestDone i_bestCost)), (q 51, .inl (E.2.1 0, 512, .inl a_least)), (q 52, .inl (E.2.1 0, 512, .inl a_order)), (q 49, .inl (E.2.1 0, 100, .inl a_flights)), (q 42, .inl (E.2.1 0, 7, .inl a_dFrom)), (q 43, .inl (E.2.1 0, 7, .inl a_dTo)), (q 44, .inl (E.2.1 0, 7, .inl a_dDays)), (q 45, .inl (E.2.1 0, 7, .inl a_dFirst)), (q 46, .inl (E.2.1 0, 7, .inl a_dLast))]) [0, 1, 2, 3, 4, 5, 6, 7, 8] (by decide) rfl
                have hFc := va_free (wc := [(h0, .inr (12, mG q i_taped i_size i_sort i_what i_at i_end i_worth i_faultKind i_faultPlace i_got i_worked (nI dl) i_isPlanned i_bestDone i_bestCost)), (q 51, .inl (E.2.1 0, 512, .inl a_least)), (q 52, .inl (E.2.1 0, 512, .inl a_order)), (q 49, .inl (E.2.1 0, 100, .inl a_flights)), (q 42, .inl (E.2.1 0, 7, .inl a_dFrom)), (q 43, .inl (E.2.1 0, 7, .inl a_dTo)), (q 44, .inl (E.2.1 0, 7, .inl a_dDays)), (q 45, .inl (E.2.1 0, 7, .inl a_dFirst)), (q 46, .inl (E.2.1 0, 7, .inl a_dLast))]) hD hS hA [0, 1, 2, 3, 4, 5, 6, 7, 8] rfl
                refine va_callv (va_runV (As := [.int (nI cr), .int (nI w_105), .int x_109, .int (nI w_112), .int (nI ((8 * ro) + k)), .int x_120]) (rest := []) ⟨hx, hb, hml, hown, hts⟩ (c_X12_tries3 l E h0 q i_taped i_size i_sort i_what i_at i_end i_worth i_faultKind i_faultPlace i_got i_worked i_isPlanned i_bestDone i_bestCost dl cr w_105 w_112 ((8 * ro) + k) a_least a_order a_flights a_dFrom a_dTo a_dDays a_dFirst a_dLast x_109 x_120 H.size hcr (by omega) hw_113 hdl hw_113b (dg_step hro hlt) hI_order hI_dFrom hI_dTo) (cwV 6 hts gX12_tries_X12_tries rfl rfl rfl hdV_X12_tries ⟨Nat.le_of_ble_eq_true rfl, Nat.le_of_ble_eq_true rfl⟩) ⟨pcW_blind, va_recv hK hPc (ci := 12) (q0 := 0) rfl rfl, (pcW_pre hPc hkn hDc hst hS hFc)⟩ rfl rfl hl.1 rfl (lv_room (Nat.le_of_ble_eq_true rfl)) dX12_tries_237 ⟨Nat.le_of_ble_eq_true rfl, Nat.le_of_ble_eq_true rfl⟩) hS (fun q _ h => hFc q h) hFc (fun u t H1 locs ht hvm hw_122 hB hz1 hk1 hS => ?_)
                obtain ⟨u_123, u_124⟩ := u
                obtain ⟨hf_125, hP1, hD1⟩ := hB
                rw [ht] at hP1
                try dsimp only at hw_122
                obtain ⟨hP, hD⟩ := va_join (wr := []) (w1 := [(h0, .inr (12, mG q i_taped i_size i_sort i_what i_at i_end i_worth i_faultKind i_faultPlace i_got i_worked (nI dl) i_isPlanned i_bestDone i_bestCost)), (q 51, .inl (E.2.1 0, 512, .inl u_123)), (q 52, .inl (E.2.1 0, 512, .inl u_124)), (q 49, .inl (E.2.1 0, 100, .inl a_flights)), (q 42, .inl (E.2.1 0, 7, .inl a_dFrom)), (q 43, .inl (E.2.1 0, 7, .inl a_dTo)), (q 44, .inl (E.2.1 0, 7, .inl a_dDays)), (q 45, .inl (E.2.1 0, 7, .inl a_dFirst)), (q 46, .inl (E.2.1 0, 7, .inl a_dLast))]) hP hD [0, 1, 2, 3, 4, 5, 6, 7, 8] [] rfl rfl (by decide) (by decide) hk1 hFc hP1 hD1
                generalize H1 = H at hP hS ⊢
                have hP : va_P E.1 vwCl [(h0, .inr (12, mG q i_taped i_size i_sort i_what i_at i_end i_worth i_faultKind i_faultPlace i_got i_worked (nI dl) i_isPlanned i_bestDone i_bestCost)), (q 51, .inl (E.2.1 0, 512, .inl u_123)), (q 52, .inl (E.2.1 0, 512, .inl u_124)), (q 49, .inl (E.2.1 0, 100, .inl a_flights)), (q 42, .inl (E.2.1 0, 7, .inl a_dFrom)), (q 43, .inl (E.2.1 0, 7, .inl a_dTo)), (q 44, .inl (E.2.1 0, 7, .inl a_dDays)), (q 45, .inl (E.2.1 0, 7, .inl a_dFirst)), (q 46, .inl (E.2.1 0, 7, .inl a_dLast))] H := hP
                have hD : va_D A [(h0, .inr (12, mG q i_taped i_size i_sort i_what i_at i_end i_worth i_faultKind i_faultPlace i_got i_worked (nI dl) i_isPlanned i_bestDone i_bestCost)), (q 51, .inl (E.2.1 0, 512, .inl u_123)), (q 52, .inl (E.2.1 0, 512, .inl u_124)), (q 49, .inl (E.2.1 0, 100, .inl a_flights)), (q 42, .inl (E.2.1 0, 7, .inl a_dFrom)), (q 43, .inl (E.2.1 0, 7, .inl a_dTo)), (q 44, .inl (E.2.1 0, 7, .inl a_dDays)), (q 45, .inl (E.2.1 0, 7, .inl a_dFirst)), (q 46, .inl (E.2.1 0, 7, .inl a_dLast))] := hD
                refine lv_iinc (v := (nI (k + 1))) (lv' := [(8, .int (nI (k + 1))), (10, .int x_72), (9, .int x_72), (0, .ref h0), (1, .int (nI cr)), (2, .int (nI po)), (3, .int da), (4, .int (nI se_)), (5, .int (nI ro)), (6, .int co_)]) hx hb dX12_tries_240 hl (k := 9) rfl (show nI k + 1 = nI (k + 1) from nI_1 k) (by decide) rfl (fun ls hl => ?_)
                refine lv_goto (tgt := 78) hx hb dX12_tries_243 (by decide) ?_
                exact ih (k + 1) u_123 u_124 _ _ _ (by omega) (by omega) hf_125 (hP.sub [0, 1, 2, 3, 4, 5, 6, 7, 8] rfl) (hD.sub [0, 1, 2, 3, 4, 5, 6, 7, 8] (by decide) rfl) hS (lv_sub hl [3, 4, 5, 6, 7, 8, 9, 0] rfl)
              · refine lv_goto (tgt := 240) hx hb dX12_tries_180 (by decide) ?_
                refine lv_iinc (v := (nI (k + 1))) (lv' := [(8, .int (nI (k + 1))), (10, .int x_72), (9, .int x_72), (0, .ref h0), (1, .int (nI cr)), (2, .int (nI po)), (3, .int da), (4, .int (nI se_)), (5, .int (nI ro)), (6, .int co_)]) hx hb dX12_tries_240 hl (k := 9) rfl (show nI k + 1 = nI (k + 1) from nI_1 k) (by decide) rfl (fun ls hl => ?_)
                refine lv_goto (tgt := 78) hx hb dX12_tries_243 (by decide) ?_
                exact ih (k + 1) a_least a_order _ _ _ (by omega) (by omega) hI_order (hP.sub [0, 1, 2, 3, 4, 5, 6, 7, 8] rfl) (hD.sub [0, 1, 2, 3, 4, 5, 6, 7, 8] (by decide) rfl) hS (lv_sub hl [3, 4, 5, 6, 7, 8, 9, 0] rfl)
        · refine lv_goto (tgt := 240) hx hb dX12_tries_119 (by decide) ?_
          refine lv_iinc (v := (nI (k + 1))) (lv' := [(8, .int (nI (k + 1))), (0, .ref h0), (1, .int (nI cr)), (2, .int (nI po)), (3, .int da), (4, .int (nI se_)), (5, .int (nI ro)), (6, .int co_)]) hx hb dX12_tries_240 hl (k := 7) rfl (show nI k + 1 = nI (k + 1) from nI_1 k) (by decide) rfl (fun ls hl => ?_)
          refine lv_goto (tgt := 78) hx hb dX12_tries_243 (by decide) ?_
          exact ih (k + 1) a_least a_order _ _ _ (by omega) (by omega) hI_order (hP.sub [0, 1, 2, 3, 4, 5, 6, 7, 8] rfl) (hD.sub [0, 1, 2, 3, 4, 5, 6, 7, 8] (by decide) rfl) hS (lv_sub hl [1, 2, 3, 4, 5, 6, 7, 0] rfl)
set_option maxHeartbeats 4000000 in
set_option maxRecDepth 100000 in
theorem c_X12_tries2 (l : Launch) (E : vE) (h0 : Nat) (q : Nat → Nat) (i_taped : Int32) (i_size : Int32) (i_sort : Int32) (i_what : Int32) (i_at : Int32) (i_end : Int32) (i_worth : Int32) (i_faultKind : Int32) (i_faultPlace : Int32) (i_got : Int32) (i_worked : Int32) (i_isPlanned : Int32) (i_bestDone : Int32) (i_bestCost : Int32) (dl : Nat) (cr : Nat) (po : Nat) (se_ : Nat) (ro : Nat) (a_least : Nat → Int32) (a_order : Nat → Int32) (a_flights : Nat → Int32) (a_dFrom : Nat → Int32) (a_dTo : Nat → Int32) (a_dDays : Nat → Int32) (a_dFirst : Nat → Int32) (a_dLast : Nat → Int32) (da : Int32) (co_ : Int32) (sz : Nat) (hcr : cr < 4) (hpo : po ≤ 9) (hse : se_ < 128) (hdl : dl ≤ 7) (hbc : bc7 se_ = 2) (hro : dg ro 2) (hI_order : ∀ k : Nat, k < 512 → digOK (a_order k)) (hI_dFrom : ∀ k : Nat, k < 7 → inR (a_dFrom k) 0 9 = true) (hI_dTo : ∀ k : Nat, k < 7 → inR (a_dTo k) 0 9 = true) : Met l yX12_tries wsX12_tries ({ frames := 5, cells := 0, slots := 0, locals := 150 }) (pcW E [.ref h0, .int (nI cr), .int (nI po), .int da, .int (nI se_), .int (nI ro), .int co_] sz [(h0, .inr (12, mG q i_taped i_size i_sort i_what i_at i_end i_worth i_faultKind i_faultPlace i_got i_worked (nI dl) i_isPlanned i_bestDone i_bestCost)), (q 51, .inl (E.2.1 0, 512, .inl a_least)), (q 52, .inl (E.2.1 0, 512, .inl a_order)), (q 49, .inl (E.2.1 0, 100, .inl a_flights)), (q 42, .inl (E.2.1 0, 7, .inl a_dFrom)), (q 43, .inl (E.2.1 0, 7, .inl a_dTo)), (q 44, .inl (E.2.1 0, 7, .inl a_dDays)), (q 45, .inl (E.2.1 0, 7, .inl a_dFirst)), (q 46, .inl (E.2.1 0, 7, .inl a_dLast))]) (va_Qv (fun (u : (Nat → Int32) × (Nat → Int32)) => match u with | (b_least, b_order) => True) (fun (u : (Nat → Int32) × (Nat → Int32)) (t : State) => match u with | (b_least, b_order) => (∀ k : Nat, k < 512 → digOK (b_order k)) ∧ wB E (va_A [(h0, .inr (12, mG q i_taped i_size i_sort i_what i_at i_end i_worth i_faultKind i_faultPlace i_got i_worked (nI dl) i_isPlanned i_bestDone i_bestCost)), (q 51, .inl (E.2.1 0, 512, .inl a_least)), (q 52, .inl (E.2.1 0, 512, .inl a_order)), (q 49, .inl (E.2.1 0, 100, .inl a_flights)), (q 42, .inl (E.2.1 0, 7, .inl a_dFrom)), (q 43, .inl (E.2.1 0, 7, .inl a_dTo)), (q 44, .inl (E.2.1 0, 7, .inl a_dDays)), (q 45, .inl (E.2.1 0, 7, .inl a_dFirst)), (q 46, .inl (E.2.1 0, 7, .inl a_dLast))] sz) [(h0, .inr (12, mG q i_taped i_size i_sort i_what i_at i_end i_worth i_faultKind i_faultPlace i_got i_worked (nI dl) i_isPlanned i_bestDone i_bestCost)), (q 51, .inl (E.2.1 0, 512, .inl b_least)), (q 52, .inl (E.2.1 0, 512, .inl b_order)), (q 49, .inl (E.2.1 0, 100, .inl a_flights)), (q 42, .inl (E.2.1 0, 7, .inl a_dFrom)), (q 43, .inl (E.2.1 0, 7, .inl a_dTo)), (q 44, .inl (E.2.1 0, 7, .inl a_dDays)), (q 45, .inl (E.2.1 0, 7, .inl a_dFirst)), (q 46, .inl (E.2.1 0, 7, .inl a_dLast))] t) (va_A [(h0, .inr (12, mG q i_taped i_size i_sort i_what i_at i_end i_worth i_faultKind i_faultPlace i_got i_worked (nI dl) i_isPlanned i_bestDone i_bestCost)), (q 51, .inl (E.2.1 0, 512, .inl a_least)), (q 52, .inl (E.2.1 0, 512, .inl a_order)), (q 49, .inl (E.2.1 0, 100, .inl a_flights)), (q 42, .inl (E.2.1 0, 7, .inl a_dFrom)), (q 43, .inl (E.2.1 0, 7, .inl a_dTo)), (q 44, .inl (E.2.1 0, 7, .inl a_dDays)), (q 45, .inl (E.2.1 0, 7, .inl a_dFirst)), (q 46, .inl (E.2.1 0, 7, .inl a_dLast))] sz)) 0 0 (va_A [(h0, .inr (12, mG q i_taped i_size i_sort i_what i_at i_end i_worth i_faultKind i_faultPlace i_got i_worked (nI dl) i_isPlanned i_bestDone i_bestCost)), (q 51, .inl (E.2.1 0, 512, .inl a_least)), (q 52, .inl (E.2.1 0, 512, .inl a_order)), (q 49, .inl (E.2.1 0, 100, .inl a_flights)), (q 42, .inl (E.2.1 0, 7, .inl a_dFrom)), (q 43, .inl (E.2.1 0, 7, .inl a_dTo)), (q 44, .inl (E.2.1 0, 7, .inl a_dDays)), (q 45, .inl (E.2.1 0, 7, .inl a_dFirst)), (q 46, .inl (E.2.1 0, 7, .inl a_dLast))] sz) := by
  refine Met.ofW (cc := cX12_tries) (maxL := 11) (ret := none) (by decide) rfl ?_
  intro p e s m args below meth c s₁ B hml hv
  obtain ⟨rfl, hsz, hP, hkn, hD0, hst⟩ := hv
  have hx := B.exec
  have hb := B.bytes
  have hr := B.returns
  have hts := atoms_spec (ws := wsX12_tries) B.pre
  have hown : s.vm.findClass RX12 = some m.cls := findClass_of_methodNamed B.named
  have hlocks := B.notSynchronized
  subst hsz
  have hD := hD0.self (sz := s.heap.size)
  have hK := hkn.1
  have hAO := hkn.2.2.1
  generalize hAe : va_A [(h0, .inr (12, mG q i_taped i_size i_sort i_what i_at i_end i_worth i_faultKind i_faultPlace i_got i_worked (nI dl) i_isPlanned i_bestDone i_bestCost)), (q 51, .inl (E.2.1 0, 512, .inl a_least)), (q 52, .inl (E.2.1 0, 512, .inl a_order)), (q 49, .inl (E.2.1 0, 100, .inl a_flights)), (q 42, .inl (E.2.1 0, 7, .inl a_dFrom)), (q 43, .inl (E.2.1 0, 7, .inl a_dTo)), (q 44, .inl (E.2.1 0, 7, .inl a_dDays)), (q 45, .inl (E.2.1 0, 7, .inl a_dFirst)), (q 46, .inl (E.2.1 0, 7, .inl a_dLast))] s.heap.size = A at hD hst ⊢
  have hA : ∀ q : Nat, s.heap.size ≤ q → A q := fun q h => by rw [← hAe]; exact Or.inr h
  have hS : va_S A s.heap s.heap [] := va_S.rf
  have hP : va_P E.1 vwCl [(h0, .inr (12, mG q i_taped i_size i_sort i_what i_at i_end i_worth i_faultKind i_faultPlace i_got i_worked (nI dl) i_isPlanned i_bestDone i_bestCost)), (q 51, .inl (E.2.1 0, 512, .inl a_least)), (q 52, .inl (E.2.1 0, 512, .inl a_order)), (q 49, .inl (E.2.1 0, 100, .inl a_flights)), (q 42, .inl (E.2.1 0, 7, .inl a_dFrom)), (q 43, .inl (E.2.1 0, 7, .inl a_dTo)), (q 44, .inl (E.2.1 0, 7, .inl a_dDays)), (q 45, .inl (E.2.1 0, 7, .inl a_dFirst)), (q 46, .inl (E.2.1 0, 7, .inl a_dLast))] s.heap := hP
  have hl := lv_entry ([.ref h0, .int (nI cr), .int (nI po), .int da, .int (nI se_), .int (nI ro), .int co_]) (n := 11) (Nat.le_of_ble_eq_true rfl)
  rw [lg_entry_eq]
  generalize (lg_sl ([.ref h0, .int (nI cr), .int (nI po), .int da, .int (nI se_), .int (nI ro), .int co_]) ++ List.replicate (11 - (lg_sl ([.ref h0, .int (nI cr), .int (nI po), .int da, .int (nI se_), .int (nI ro), .int co_])).length) Slot.unset).toArray = ls at hl ⊢
  have hl : lv_has ls 11 [(0, .ref h0), (1, .int (nI cr)), (2, .int (nI po)), (3, .int da), (4, .int (nI se_)), (5, .int (nI ro)), (6, .int co_)] := hl
  have fl106 := hts (.fieldLink RX12 106 "BoatsHomeModel" "dFrom" "[I") (by first | exact List.mem_of_getElem? (i := 5) rfl | decide +kernel)
  have fl109 := hts (.fieldLink RX12 109 "BoatsHomeModel" "dTo" "[I") (by first | exact List.mem_of_getElem? (i := 8) rfl | decide +kernel)
  have fl112 := hts (.fieldLink RX12 112 "BoatsHomeModel" "dDays" "[I") (by first | exact List.mem_of_getElem? (i := 9) rfl | decide +kernel)
  have fl115 := hts (.fieldLink RX12 115 "BoatsHomeModel" "dFirst" "[I") (by first | exact List.mem_of_getElem? (i := 6) rfl | decide +kernel)
  have fl118 := hts (.fieldLink RX12 118 "BoatsHomeModel" "dLast" "[I") (by first | exact List.mem_of_getElem? (i := 7) rfl | decide +kernel)
  have fl127 := hts (.fieldLink RX12 127 "BoatsHomeModel" "flights" "[I") (by first | exact List.mem_of_getElem? (i := 4) rfl | decide +kernel)
  have fl130 := hts (.fieldLink RX12 130 "BoatsHomeModel" "least" "[I") (by first | exact List.mem_of_getElem? (i := 1) rfl | decide +kernel)
  have fl133 := hts (.fieldLink RX12 133 "BoatsHomeModel" "order" "[I") (by first | exact List.mem_of_getElem? (i := 2) rfl | decide +kernel)
  have fl289 := hts (.fieldLink RX12 289 "BoatsHomeModel" "deliveries" "I") (by first | exact List.mem_of_getElem? (i := 3) rfl | decide +kernel)
  have inX12 : ∀ w ∈ u_ws RX12 TX12 59, w ∈ wsX12_tries := by first | exact fun w h9 => (List.mem_cons_of_mem _ (List.mem_append_right _ h9)) | decide +kernel
  refine lv_sipush (v := 128) hx hb dX12_tries_0 (by decide) ?_
  refine lv_iload_n hx hb dX12_tries_3 rfl (lv_at hl 1 rfl) ?_
  refine lv_imul hx hb dX12_tries_4 ?_
  refine lv_topi (fun x_1 ex_1 => ?_)
  obtain rfl : x_1 = nI (128 * cr) := ex_1.trans (pk_mul 128 cr)
  refine lv_iload hx hb dX12_tries_5 (lv_at hl 4 rfl) ?_
  refine lv_iadd hx hb dX12_tries_7 ?_
  refine lv_topi (fun x_2 ex_2 => ?_)
  obtain rfl : x_2 = nI ((128 * cr) + se_) := ex_2.trans (nI_add (128 * cr) se_)
  refine lv_istore (lv' := [(7, .int (nI ((128 * cr) + se_))), (0, .ref h0), (1, .int (nI cr)), (2, .int (nI po)), (3, .int da), (4, .int (nI se_)), (5, .int (nI ro)), (6, .int co_)]) hx hb dX12_tries_8 hl (by decide) rfl (fun ls hl => ?_)
  refine lv_aload_n hx hb dX12_tries_10 rfl (lv_at hl 1 rfl) ?_
  refine va_get (D := E.1) (ci := 12) (v := .ref (q 51)) (C := RX12) (T := TX12) (N := 59) hx hb hts inX12 hown hK hP 0 rfl rfl 51 (by decide) fl130 (fun _ h9 => h9) rfl dX12_tries_11 ?_
  refine lv_iload hx hb dX12_tries_14 (lv_at hl 0 rfl) ?_
  have hi_3 : vp_in (nI ((128 * cr) + se_)) 512 := vp_in_nI (by omega) (by decide)
  refine va_iald hx hb hK hP 1 0 rfl rfl hi_3 dX12_tries_16 ?_
  refine lv_topi (fun x_4 ex_4 => ?_)
  refine lv_iconst (v := (-1)) hx hb dX12_tries_17 (by decide) ?_
  refine lv_icmp_eq (tgt := 57) hx hb dX12_tries_18 (by decide) (fun c_5 => ?_) (fun c_5 => ?_)
  · refine lv_aload_n hx hb dX12_tries_57 rfl (lv_at hl 1 rfl) ?_
    refine va_get (D := E.1) (ci := 12) (v := .ref (q 51)) (C := RX12) (T := TX12) (N := 59) hx hb hts inX12 hown hK hP 0 rfl rfl 51 (by decide) fl130 (fun _ h9 => h9) rfl dX12_tries_58 ?_
    refine lv_iload hx hb dX12_tries_61 (lv_at hl 0 rfl) ?_
    refine lv_iload hx hb dX12_tries_63 (lv_at hl 7 rfl) ?_
    refine va_iast hx hb hK hP hD hS 1 0 rfl rfl hi_3 dX12_tries_65 (fun H locs hP hD hS => ?_)
    have hP : va_P E.1 vwCl [(h0, .inr (12, mG q i_taped i_size i_sort i_what i_at i_end i_worth i_faultKind i_faultPlace i_got i_worked (nI dl) i_isPlanned i_bestDone i_bestCost)), (q 51, .inl (E.2.1 0, 512, .inl (upd a_least (nI ((128 * cr) + se_)).toNatClampNeg co_))), (q 52, .inl (E.2.1 0, 512, .inl a_order)), (q 49, .inl (E.2.1 0, 100, .inl a_flights)), (q 42, .inl (E.2.1 0, 7, .inl a_dFrom)), (q 43, .inl (E.2.1 0, 7, .inl a_dTo)), (q 44, .inl (E.2.1 0, 7, .inl a_dDays)), (q 45, .inl (E.2.1 0, 7, .inl a_dFirst)), (q 46, .inl (E.2.1 0, 7, .inl a_dLast))] H := hP
    have hD : va_D A [(h0, .inr (12, mG q i_taped i_size i_sort i_what i_at i_end i_worth i_faultKind i_faultPlace i_got i_worked (nI dl) i_isPlanned i_bestDone i_bestCost)), (q 51, .inl (E.2.1 0, 512, .inl (upd a_least (nI ((128 * cr) + se_)).toNatClampNeg co_))), (q 52, .inl (E.2.1 0, 512, .inl a_order)), (q 49, .inl (E.2.1 0, 100, .inl a_flights)), (q 42, .inl (E.2.1 0, 7, .inl a_dFrom)), (q 43, .inl (E.2.1 0, 7, .inl a_dTo)), (q 44, .inl (E.2.1 0, 7, .inl a_dDays)), (q 45, .inl (E.2.1 0, 7, .inl a_dFirst)), (q 46, .inl (E.2.1 0, 7, .inl a_dLast))] := hD
    obtain ⟨f_6, ef_6⟩ : ∃ g : Nat → Int32, g = upd a_least (nI ((128 * cr) + se_)).toNatClampNeg co_ := ⟨_, rfl⟩
    rw [← ef_6] at hP hD
    refine lv_aload_n hx hb dX12_tries_66 rfl (lv_at hl 1 rfl) ?_
    refine va_get (D := E.1) (ci := 12) (v := .ref (q 52)) (C := RX12) (T := TX12) (N := 59) hx hb hts inX12 hown hK hP 0 rfl rfl 52 (by decide) fl133 (fun _ h9 => h9) rfl dX12_tries_67 ?_
    refine lv_iload hx hb dX12_tries_70 (lv_at hl 0 rfl) ?_
    refine lv_iload hx hb dX12_tries_72 (lv_at hl 6 rfl) ?_
    refine va_iast hx hb hK hP hD hS 2 0 rfl rfl hi_3 dX12_tries_74 (fun H locs hP hD hS => ?_)
    have hP : va_P E.1 vwCl [(h0, .inr (12, mG q i_taped i_size i_sort i_what i_at i_end i_worth i_faultKind i_faultPlace i_got i_worked (nI dl) i_isPlanned i_bestDone i_bestCost)), (q 51, .inl (E.2.1 0, 512, .inl f_6)), (q 52, .inl (E.2.1 0, 512, .inl (upd a_order (nI ((128 * cr) + se_)).toNatClampNeg (nI ro)))), (q 49, .inl (E.2.1 0, 100, .inl a_flights)), (q 42, .inl (E.2.1 0, 7, .inl a_dFrom)), (q 43, .inl (E.2.1 0, 7, .inl a_dTo)), (q 44, .inl (E.2.1 0, 7, .inl a_dDays)), (q 45, .inl (E.2.1 0, 7, .inl a_dFirst)), (q 46, .inl (E.2.1 0, 7, .inl a_dLast))] H := hP
    have hD : va_D A [(h0, .inr (12, mG q i_taped i_size i_sort i_what i_at i_end i_worth i_faultKind i_faultPlace i_got i_worked (nI dl) i_isPlanned i_bestDone i_bestCost)), (q 51, .inl (E.2.1 0, 512, .inl f_6)), (q 52, .inl (E.2.1 0, 512, .inl (upd a_order (nI ((128 * cr) + se_)).toNatClampNeg (nI ro)))), (q 49, .inl (E.2.1 0, 100, .inl a_flights)), (q 42, .inl (E.2.1 0, 7, .inl a_dFrom)), (q 43, .inl (E.2.1 0, 7, .inl a_dTo)), (q 44, .inl (E.2.1 0, 7, .inl a_dDays)), (q 45, .inl (E.2.1 0, 7, .inl a_dFirst)), (q 46, .inl (E.2.1 0, 7, .inl a_dLast))] := hD
    obtain ⟨f_7, ef_7⟩ : ∃ g : Nat → Int32, g = upd a_order (nI ((128 * cr) + se_)).toNatClampNeg (nI ro) := ⟨_, rfl⟩
    rw [← ef_7] at hP hD
    have hI_8 : ∀ k : Nat, k < 512 → digOK (f_7 k) := by rw [ef_7]; exact all_upd (P := fun z => digOK z) hI_order (dg_OK hro (by decide))
    refine lv_iconst (v := 0) hx hb dX12_tries_75 (by decide) ?_
    refine lv_istore (lv' := [(8, .int 0), (7, .int (nI ((128 * cr) + se_))), (0, .ref h0), (1, .int (nI cr)), (2, .int (nI po)), (3, .int da), (4, .int (nI se_)), (5, .int (nI ro)), (6, .int co_)]) hx hb dX12_tries_76 hl (by decide) rfl (fun ls hl => ?_)
    have hPl := hP.sub (ws' := [(h0, .inr (12, mG q i_taped i_size i_sort i_what i_at i_end i_worth i_faultKind i_faultPlace i_got i_worked (nI dl) i_isPlanned i_bestDone i_bestCost)), (q 51, .inl (E.2.1 0, 512, .inl f_6)), (q 52, .inl (E.2.1 0, 512, .inl f_7)), (q 49, .inl (E.2.1 0, 100, .inl a_flights)), (q 42, .inl (E.2.1 0, 7, .inl a_dFrom)), (q 43, .inl (E.2.1 0, 7, .inl a_dTo)), (q 44, .inl (E.2.1 0, 7, .inl a_dDays)), (q 45, .inl (E.2.1 0, 7, .inl a_dFirst)), (q 46, .inl (E.2.1 0, 7, .inl a_dLast))]) [0, 1, 2, 3, 4, 5, 6, 7, 8] rfl
    have hDl := hD.sub (ws' := [(h0, .inr (12, mG q i_taped i_size i_sort i_what i_at i_end i_worth i_faultKind i_faultPlace i_got i_worked (nI dl) i_isPlanned i_bestDone i_bestCost)), (q 51, .inl (E.2.1 0, 512, .inl f_6)), (q 52, .inl (E.2.1 0, 512, .inl f_7)), (q 49, .inl (E.2.1 0, 100, .inl a_flights)), (q 42, .inl (E.2.1 0, 7, .inl a_dFrom)), (q 43, .inl (E.2.1 0, 7, .inl a_dTo)), (q 44, .inl (E.2.1 0, 7, .inl a_dDays)), (q 45, .inl (E.2.1 0, 7, .inl a_dFirst)), (q 46, .inl (E.2.1 0, 7, .inl a_dLast))]) [0, 1, 2, 3, 4, 5, 6, 7, 8] (by decide) rfl
    refine lm_tries2 E h0 q i_taped i_size i_sort i_what i_at i_end i_worth i_faultKind i_faultPlace i_got i_worked i_isPlanned i_bestDone i_bestCost dl cr po se_ ro da co_ a_flights a_dFrom a_dTo a_dDays a_dFirst a_dLast hx hb hml hown hts hkn hst hA (by omega) (by omega) (by omega) (by omega) hbc hro hI_dFrom hI_dTo (fun n_9 n_10 H locs ls hI_order hP hD hS hl => ?_) 9 0 f_6 f_7 _ _ _ (by omega) (by omega) hI_8 hPl hDl hS (lv_sub hl [2, 3, 4, 5, 6, 7, 8, 0] rfl)
    have hP : va_P E.1 vwCl [(h0, .inr (12, mG q i_taped i_size i_sort i_what i_at i_end i_worth i_faultKind i_faultPlace i_got i_worked (nI dl) i_isPlanned i_bestDone i_bestCost)), (q 51, .inl (E.2.1 0, 512, .inl n_9)), (q 52, .inl (E.2.1 0, 512, .inl n_10)), (q 49, .inl (E.2.1 0, 100, .inl a_flights)), (q 42, .inl (E.2.1 0, 7, .inl a_dFrom)), (q 43, .inl (E.2.1 0, 7, .inl a_dTo)), (q 44, .inl (E.2.1 0, 7, .inl a_dDays)), (q 45, .inl (E.2.1 0, 7, .inl a_dFirst)), (q 46, .inl (E.2.1 0, 7, .inl a_dLast))] H := hP
    have hD : va_D A [(h0, .inr (12, mG q i_taped i_size i_sort i_what i_at i_end i_worth i_faultKind i_faultPlace i_got i_worked (nI dl) i_isPlanned i_bestDone i_bestCost)), (q 51, .inl (E.2.1 0, 512, .inl n_9)), (q 52, .inl (E.2.1 0, 512, .inl n_10)), (q 49, .inl (E.2.1 0, 100, .inl a_flights)), (q 42, .inl (E.2.1 0, 7, .inl a_dFrom)), (q 43, .inl (E.2.1 0, 7, .inl a_dTo)), (q 44, .inl (E.2.1 0, 7, .inl a_dDays)), (q 45, .inl (E.2.1 0, 7, .inl a_dFirst)), (q 46, .inl (E.2.1 0, 7, .inl a_dLast))] := hD
    have hP9 := hP.sub (ws' := [(h0, .inr (12, mG q i_taped i_size i_sort i_what i_at i_end i_worth i_faultKind i_faultPlace i_got i_worked (nI dl) i_isPlanned i_bestDone i_bestCost)), (q 51, .inl (E.2.1 0, 512, .inl n_9)), (q 52, .inl (E.2.1 0, 512, .inl n_10)), (q 49, .inl (E.2.1 0, 100, .inl a_flights)), (q 42, .inl (E.2.1 0, 7, .inl a_dFrom)), (q 43, .inl (E.2.1 0, 7, .inl a_dTo)), (q 44, .inl (E.2.1 0, 7, .inl a_dDays)), (q 45, .inl (E.2.1 0, 7, .inl a_dFirst)), (q 46, .inl (E.2.1 0, 7, .inl a_dLast))]) [0, 1, 2, 3, 4, 5, 6, 7, 8] rfl
    have hD9 := hD.sub (ws' := [(h0, .inr (12, mG q i_taped i_size i_sort i_what i_at i_end i_worth i_faultKind i_faultPlace i_got i_worked (nI dl) i_isPlanned i_bestDone i_bestCost)), (q 51, .inl (E.2.1 0, 512, .inl n_9)), (q 52, .inl (E.2.1 0, 512, .inl n_10)), (q 49, .inl (E.2.1 0, 100, .inl a_flights)), (q 42, .inl (E.2.1 0, 7, .inl a_dFrom)), (q 43, .inl (E.2.1 0, 7, .inl a_dTo)), (q 44, .inl (E.2.1 0, 7, .inl a_dDays)), (q 45, .inl (E.2.1 0, 7, .inl a_dFirst)), (q 46, .inl (E.2.1 0, 7, .inl a_dLast))]) [0, 1, 2, 3, 4, 5, 6, 7, 8] (by decide) rfl
    exact W.vret hx hb hr (fun t ht hW => ⟨⟨(n_9, n_10), rfl, trivial, hI_order, by rw [ht]; exact hP9, hD9⟩, hS.F ht⟩) hS.2.2 dX12_tries_246
  · refine lv_iload hx hb dX12_tries_21 (lv_at hl 7 rfl) ?_
    refine lv_aload_n hx hb dX12_tries_23 rfl (lv_at hl 1 rfl) ?_
    refine va_get (D := E.1) (ci := 12) (v := .ref (q 51)) (C := RX12) (T := TX12) (N := 59) hx hb hts inX12 hown hK hP 0 rfl rfl 51 (by decide) fl130 (fun _ h9 => h9) rfl dX12_tries_24 ?_
    refine lv_iload hx hb dX12_tries_27 (lv_at hl 0 rfl) ?_
    refine va_iald hx hb hK hP 1 0 rfl rfl hi_3 dX12_tries_29 ?_
    refine lv_topi (fun x_11 ex_11 => ?_)
    refine lv_icmp_lt (tgt := 57) hx hb dX12_tries_30 (by decide) (fun c_12 => ?_) (fun c_12 => ?_)
    · refine lv_aload_n hx hb dX12_tries_57 rfl (lv_at hl 1 rfl) ?_
      refine va_get (D := E.1) (ci := 12) (v := .ref (q 51)) (C := RX12) (T := TX12) (N := 59) hx hb hts inX12 hown hK hP 0 rfl rfl 51 (by decide) fl130 (fun _ h9 => h9) rfl dX12_tries_58 ?_
      refine lv_iload hx hb dX12_tries_61 (lv_at hl 0 rfl) ?_
      refine lv_iload hx hb dX12_tries_63 (lv_at hl 7 rfl) ?_
      refine va_iast hx hb hK hP hD hS 1 0 rfl rfl hi_3 dX12_tries_65 (fun H locs hP hD hS => ?_)
      have hP : va_P E.1 vwCl [(h0, .inr (12, mG q i_taped i_size i_sort i_what i_at i_end i_worth i_faultKind i_faultPlace i_got i_worked (nI dl) i_isPlanned i_bestDone i_bestCost)), (q 51, .inl (E.2.1 0, 512, .inl (upd a_least (nI ((128 * cr) + se_)).toNatClampNeg co_))), (q 52, .inl (E.2.1 0, 512, .inl a_order)), (q 49, .inl (E.2.1 0, 100, .inl a_flights)), (q 42, .inl (E.2.1 0, 7, .inl a_dFrom)), (q 43, .inl (E.2.1 0, 7, .inl a_dTo)), (q 44, .inl (E.2.1 0, 7, .inl a_dDays)), (q 45, .inl (E.2.1 0, 7, .inl a_dFirst)), (q 46, .inl (E.2.1 0, 7, .inl a_dLast))] H := hP
      have hD : va_D A [(h0, .inr (12, mG q i_taped i_size i_sort i_what i_at i_end i_worth i_faultKind i_faultPlace i_got i_worked (nI dl) i_isPlanned i_bestDone i_bestCost)), (q 51, .inl (E.2.1 0, 512, .inl (upd a_least (nI ((128 * cr) + se_)).toNatClampNeg co_))), (q 52, .inl (E.2.1 0, 512, .inl a_order)), (q 49, .inl (E.2.1 0, 100, .inl a_flights)), (q 42, .inl (E.2.1 0, 7, .inl a_dFrom)), (q 43, .inl (E.2.1 0, 7, .inl a_dTo)), (q 44, .inl (E.2.1 0, 7, .inl a_dDays)), (q 45, .inl (E.2.1 0, 7, .inl a_dFirst)), (q 46, .inl (E.2.1 0, 7, .inl a_dLast))] := hD
      obtain ⟨f_13, ef_13⟩ : ∃ g : Nat → Int32, g = upd a_least (nI ((128 * cr) + se_)).toNatClampNeg co_ := ⟨_, rfl⟩
      rw [← ef_13] at hP hD
      refine lv_aload_n hx hb dX12_tries_66 rfl (lv_at hl 1 rfl) ?_
      refine va_get (D := E.1) (ci := 12) (v := .ref (q 52)) (C := RX12) (T := TX12) (N := 59) hx hb hts inX12 hown hK hP 0 rfl rfl 52 (by decide) fl133 (fun _ h9 => h9) rfl dX12_tries_67 ?_
      refine lv_iload hx hb dX12_tries_70 (lv_at hl 0 rfl) ?_
      refine lv_iload hx hb dX12_tries_72 (lv_at hl 6 rfl) ?_
      refine va_iast hx hb hK hP hD hS 2 0 rfl rfl hi_3 dX12_tries_74 (fun H locs hP hD hS => ?_)
      have hP : va_P E.1 vwCl [(h0, .inr (12, mG q i_taped i_size i_sort i_what i_at i_end i_worth i_faultKind i_faultPlace i_got i_worked (nI dl) i_isPlanned i_bestDone i_bestCost)), (q 51, .inl (E.2.1 0, 512, .inl f_13)), (q 52, .inl (E.2.1 0, 512, .inl (upd a_order (nI ((128 * cr) + se_)).toNatClampNeg (nI ro)))), (q 49, .inl (E.2.1 0, 100, .inl a_flights)), (q 42, .inl (E.2.1 0, 7, .inl a_dFrom)), (q 43, .inl (E.2.1 0, 7, .inl a_dTo)), (q 44, .inl (E.2.1 0, 7, .inl a_dDays)), (q 45, .inl (E.2.1 0, 7, .inl a_dFirst)), (q 46, .inl (E.2.1 0, 7, .inl a_dLast))] H := hP
      have hD : va_D A [(h0, .inr (12, mG q i_taped i_size i_sort i_what i_at i_end i_worth i_faultKind i_faultPlace i_got i_worked (nI dl) i_isPlanned i_bestDone i_bestCost)), (q 51, .inl (E.2.1 0, 512, .inl f_13)), (q 52, .inl (E.2.1 0, 512, .inl (upd a_order (nI ((128 * cr) + se_)).toNatClampNeg (nI ro)))), (q 49, .inl (E.2.1 0, 100, .inl a_flights)), (q 42, .inl (E.2.1 0, 7, .inl a_dFrom)), (q 43, .inl (E.2.1 0, 7, .inl a_dTo)), (q 44, .inl (E.2.1 0, 7, .inl a_dDays)), (q 45, .inl (E.2.1 0, 7, .inl a_dFirst)), (q 46, .inl (E.2.1 0, 7, .inl a_dLast))] := hD
      obtain ⟨f_14, ef_14⟩ : ∃ g : Nat → Int32, g = upd a_order (nI ((128 * cr) + se_)).toNatClampNeg (nI ro) := ⟨_, rfl⟩
      rw [← ef_14] at hP hD
      have hI_15 : ∀ k : Nat, k < 512 → digOK (f_14 k) := by rw [ef_14]; exact all_upd (P := fun z => digOK z) hI_order (dg_OK hro (by decide))
      refine lv_iconst (v := 0) hx hb dX12_tries_75 (by decide) ?_
      refine lv_istore (lv' := [(8, .int 0), (7, .int (nI ((128 * cr) + se_))), (0, .ref h0), (1, .int (nI cr)), (2, .int (nI po)), (3, .int da), (4, .int (nI se_)), (5, .int (nI ro)), (6, .int co_)]) hx hb dX12_tries_76 hl (by decide) rfl (fun ls hl => ?_)
      have hPl := hP.sub (ws' := [(h0, .inr (12, mG q i_taped i_size i_sort i_what i_at i_end i_worth i_faultKind i_faultPlace i_got i_worked (nI dl) i_isPlanned i_bestDone i_bestCost)), (q 51, .inl (E.2.1 0, 512, .inl f_13)), (q 52, .inl (E.2.1 0, 512, .inl f_14)), (q 49, .inl (E.2.1 0, 100, .inl a_flights)), (q 42, .inl (E.2.1 0, 7, .inl a_dFrom)), (q 43, .inl (E.2.1 0, 7, .inl a_dTo)), (q 44, .inl (E.2.1 0, 7, .inl a_dDays)), (q 45, .inl (E.2.1 0, 7, .inl a_dFirst)), (q 46, .inl (E.2.1 0, 7, .inl a_dLast))]) [0, 1, 2, 3, 4, 5, 6, 7, 8] rfl
      have hDl := hD.sub (ws' := [(h0, .inr (12, mG q i_taped i_size i_sort i_what i_at i_end i_worth i_faultKind i_faultPlace i_got i_worked (nI dl) i_isPlanned i_bestDone i_bestCost)), (q 51, .inl (E.2.1 0, 512, .inl f_13)), (q 52, .inl (E.2.1 0, 512, .inl f_14)), (q 49, .inl (E.2.1 0, 100, .inl a_flights)), (q 42, .inl (E.2.1 0, 7, .inl a_dFrom)), (q 43, .inl (E.2.1 0, 7, .inl a_dTo)), (q 44, .inl (E.2.1 0, 7, .inl a_dDays)), (q 45, .inl (E.2.1 0, 7, .inl a_dFirst)), (q 46, .inl (E.2.1 0, 7, .inl a_dLast))]) [0, 1, 2, 3, 4, 5, 6, 7, 8] (by decide) rfl
      refine lm_tries2 E h0 q i_taped i_size i_sort i_what i_at i_end i_worth i_faultKind i_faultPlace i_got i_worked i_isPlanned i_bestDone i_bestCost dl cr po se_ ro da co_ a_flights a_dFrom a_dTo a_dDays a_dFirst a_dLast hx hb hml hown hts hkn hst hA (by omega) (by omega) (by omega) (by omega) hbc hro hI_dFrom hI_dTo (fun n_16 n_17 H locs ls hI_order hP hD hS hl => ?_) 9 0 f_13 f_14 _ _ _ (by omega) (by omega) hI_15 hPl hDl hS (lv_sub hl [2, 3, 4, 5, 6, 7, 8, 0] rfl)
      have hP : va_P E.1 vwCl [(h0, .inr (12, mG q i_taped i_size i_sort i_what i_at i_end i_worth i_faultKind i_faultPlace i_got i_worked (nI dl) i_isPlanned i_bestDone i_bestCost)), (q 51, .inl (E.2.1 0, 512, .inl n_16)), (q 52, .inl (E.2.1 0, 512, .inl n_17)), (q 49, .inl (E.2.1 0, 100, .inl a_flights)), (q 42, .inl (E.2.1 0, 7, .inl a_dFrom)), (q 43, .inl (E.2.1 0, 7, .inl a_dTo)), (q 44, .inl (E.2.1 0, 7, .inl a_dDays)), (q 45, .inl (E.2.1 0, 7, .inl a_dFirst)), (q 46, .inl (E.2.1 0, 7, .inl a_dLast))] H := hP
      have hD : va_D A [(h0, .inr (12, mG q i_taped i_size i_sort i_what i_at i_end i_worth i_faultKind i_faultPlace i_got i_worked (nI dl) i_isPlanned i_bestDone i_bestCost)), (q 51, .inl (E.2.1 0, 512, .inl n_16)), (q 52, .inl (E.2.1 0, 512, .inl n_17)), (q 49, .inl (E.2.1 0, 100, .inl a_flights)), (q 42, .inl (E.2.1 0, 7, .inl a_dFrom)), (q 43, .inl (E.2.1 0, 7, .inl a_dTo)), (q 44, .inl (E.2.1 0, 7, .inl a_dDays)), (q 45, .inl (E.2.1 0, 7, .inl a_dFirst)), (q 46, .inl (E.2.1 0, 7, .inl a_dLast))] := hD
      have hP9 := hP.sub (ws' := [(h0, .inr (12, mG q i_taped i_size i_sort i_what i_at i_end i_worth i_faultKind i_faultPlace i_got i_worked (nI dl) i_isPlanned i_bestDone i_bestCost)), (q 51, .inl (E.2.1 0, 512, .inl n_16)), (q 52, .inl (E.2.1 0, 512, .inl n_17)), (q 49, .inl (E.2.1 0, 100, .inl a_flights)), (q 42, .inl (E.2.1 0, 7, .inl a_dFrom)), (q 43, .inl (E.2.1 0, 7, .inl a_dTo)), (q 44, .inl (E.2.1 0, 7, .inl a_dDays)), (q 45, .inl (E.2.1 0, 7, .inl a_dFirst)), (q 46, .inl (E.2.1 0, 7, .inl a_dLast))]) [0, 1, 2, 3, 4, 5, 6, 7, 8] rfl
      have hD9 := hD.sub (ws' := [(h0, .inr (12, mG q i_taped i_size i_sort i_what i_at i_end i_worth i_faultKind i_faultPlace i_got i_worked (nI dl) i_isPlanned i_bestDone i_bestCost)), (q 51, .inl (E.2.1 0, 512, .inl n_16)), (q 52, .inl (E.2.1 0, 512, .inl n_17)), (q 49, .inl (E.2.1 0, 100, .inl a_flights)), (q 42, .inl (E.2.1 0, 7, .inl a_dFrom)), (q 43, .inl (E.2.1 0, 7, .inl a_dTo)), (q 44, .inl (E.2.1 0, 7, .inl a_dDays)), (q 45, .inl (E.2.1 0, 7, .inl a_dFirst)), (q 46, .inl (E.2.1 0, 7, .inl a_dLast))]) [0, 1, 2, 3, 4, 5, 6, 7, 8] (by decide) rfl
      exact W.vret hx hb hr (fun t ht hW => ⟨⟨(n_16, n_17), rfl, trivial, hI_order, by rw [ht]; exact hP9, hD9⟩, hS.F ht⟩) hS.2.2 dX12_tries_246
    · refine lv_iload hx hb dX12_tries_33 (lv_at hl 7 rfl) ?_
      refine lv_aload_n hx hb dX12_tries_35 rfl (lv_at hl 1 rfl) ?_
      refine va_get (D := E.1) (ci := 12) (v := .ref (q 51)) (C := RX12) (T := TX12) (N := 59) hx hb hts inX12 hown hK hP 0 rfl rfl 51 (by decide) fl130 (fun _ h9 => h9) rfl dX12_tries_36 ?_
      refine lv_iload hx hb dX12_tries_39 (lv_at hl 0 rfl) ?_
      refine va_iald hx hb hK hP 1 0 rfl rfl hi_3 dX12_tries_41 ?_
      refine lv_topi (fun x_18 ex_18 => ?_)
      refine lv_icmp_ne (tgt := 75) hx hb dX12_tries_42 (by decide) (fun c_19 => ?_) (fun c_19 => ?_)
      · refine lv_iconst (v := 0) hx hb dX12_tries_75 (by decide) ?_
        refine lv_istore (lv' := [(8, .int 0), (7, .int (nI ((128 * cr) + se_))), (0, .ref h0), (1, .int (nI cr)), (2, .int (nI po)), (3, .int da), (4, .int (nI se_)), (5, .int (nI ro)), (6, .int co_)]) hx hb dX12_tries_76 hl (by decide) rfl (fun ls hl => ?_)
        have hPl := hP.sub (ws' := [(h0, .inr (12, mG q i_taped i_size i_sort i_what i_at i_end i_worth i_faultKind i_faultPlace i_got i_worked (nI dl) i_isPlanned i_bestDone i_bestCost)), (q 51, .inl (E.2.1 0, 512, .inl a_least)), (q 52, .inl (E.2.1 0, 512, .inl a_order)), (q 49, .inl (E.2.1 0, 100, .inl a_flights)), (q 42, .inl (E.2.1 0, 7, .inl a_dFrom)), (q 43, .inl (E.2.1 0, 7, .inl a_dTo)), (q 44, .inl (E.2.1 0, 7, .inl a_dDays)), (q 45, .inl (E.2.1 0, 7, .inl a_dFirst)), (q 46, .inl (E.2.1 0, 7, .inl a_dLast))]) [0, 1, 2, 3, 4, 5, 6, 7, 8] rfl
        have hDl := hD.sub (ws' := [(h0, .inr (12, mG q i_taped i_size i_sort i_what i_at i_end i_worth i_faultKind i_faultPlace i_got i_worked (nI dl) i_isPlanned i_bestDone i_bestCost)), (q 51, .inl (E.2.1 0, 512, .inl a_least)), (q 52, .inl (E.2.1 0, 512, .inl a_order)), (q 49, .inl (E.2.1 0, 100, .inl a_flights)), (q 42, .inl (E.2.1 0, 7, .inl a_dFrom)), (q 43, .inl (E.2.1 0, 7, .inl a_dTo)), (q 44, .inl (E.2.1 0, 7, .inl a_dDays)), (q 45, .inl (E.2.1 0, 7, .inl a_dFirst)), (q 46, .inl (E.2.1 0, 7, .inl a_dLast))]) [0, 1, 2, 3, 4, 5, 6, 7, 8] (by decide) rfl
        refine lm_tries2 E h0 q i_taped i_size i_sort i_what i_at i_end i_worth i_faultKind i_faultPlace i_got i_worked i_isPlanned i_bestDone i_bestCost dl cr po se_ ro da co_ a_flights a_dFrom a_dTo a_dDays a_dFirst a_dLast hx hb hml hown hts hkn hst hA (by omega) (by omega) (by omega) (by omega) hbc hro hI_dFrom hI_dTo (fun n_20 n_21 H locs ls hI_order hP hD hS hl => ?_) 9 0 a_least a_order _ _ _ (by omega) (by omega) hI_order hPl hDl hS (lv_sub hl [2, 3, 4, 5, 6, 7, 8, 0] rfl)
        have hP : va_P E.1 vwCl [(h0, .inr (12, mG q i_taped i_size i_sort i_what i_at i_end i_worth i_faultKind i_faultPlace i_got i_worked (nI dl) i_isPlanned i_bestDone i_bestCost)), (q 51, .inl (E.2.1 0, 512, .inl n_20)), (q 52, .inl (E.2.1 0, 512, .inl n_21)), (q 49, .inl (E.2.1 0, 100, .inl a_flights)), (q 42, .inl (E.2.1 0, 7, .inl a_dFrom)), (q 43, .inl (E.2.1 0, 7, .inl a_dTo)), (q 44, .inl (E.2.1 0, 7, .inl a_dDays)), (q 45, .inl (E.2.1 0, 7, .inl a_dFirst)), (q 46, .inl (E.2.1 0, 7, .inl a_dLast))] H := hP
        have hD : va_D A [(h0, .inr (12, mG q i_taped i_size i_sort i_what i_at i_end i_worth i_faultKind i_faultPlace i_got i_worked (nI dl) i_isPlanned i_bestDone i_bestCost)), (q 51, .inl (E.2.1 0, 512, .inl n_20)), (q 52, .inl (E.2.1 0, 512, .inl n_21)), (q 49, .inl (E.2.1 0, 100, .inl a_flights)), (q 42, .inl (E.2.1 0, 7, .inl a_dFrom)), (q 43, .inl (E.2.1 0, 7, .inl a_dTo)), (q 44, .inl (E.2.1 0, 7, .inl a_dDays)), (q 45, .inl (E.2.1 0, 7, .inl a_dFirst)), (q 46, .inl (E.2.1 0, 7, .inl a_dLast))] := hD
        have hP9 := hP.sub (ws' := [(h0, .inr (12, mG q i_taped i_size i_sort i_what i_at i_end i_worth i_faultKind i_faultPlace i_got i_worked (nI dl) i_isPlanned i_bestDone i_bestCost)), (q 51, .inl (E.2.1 0, 512, .inl n_20)), (q 52, .inl (E.2.1 0, 512, .inl n_21)), (q 49, .inl (E.2.1 0, 100, .inl a_flights)), (q 42, .inl (E.2.1 0, 7, .inl a_dFrom)), (q 43, .inl (E.2.1 0, 7, .inl a_dTo)), (q 44, .inl (E.2.1 0, 7, .inl a_dDays)), (q 45, .inl (E.2.1 0, 7, .inl a_dFirst)), (q 46, .inl (E.2.1 0, 7, .inl a_dLast))]) [0, 1, 2, 3, 4, 5, 6, 7, 8] rfl
        have hD9 := hD.sub (ws' := [(h0, .inr (12, mG q i_taped i_size i_sort i_what i_at i_end i_worth i_faultKind i_faultPlace i_got i_worked (nI dl) i_isPlanned i_bestDone i_bestCost)), (q 51, .inl (E.2.1 0, 512, .inl n_20)), (q 52, .inl (E.2.1 0, 512, .inl n_21)), (q 49, .inl (E.2.1 0, 100, .inl a_flights)), (q 42, .inl (E.2.1 0, 7, .inl a_dFrom)), (q 43, .inl (E.2.1 0, 7, .inl a_dTo)), (q 44, .inl (E.2.1 0, 7, .inl a_dDays)), (q 45, .inl (E.2.1 0, 7, .inl a_dFirst)), (q 46, .inl (E.2.1 0, 7, .inl a_dLast))]) [0, 1, 2, 3, 4, 5, 6, 7, 8] (by decide) rfl
        exact W.vret hx hb hr (fun t ht hW => ⟨⟨(n_20, n_21), rfl, trivial, hI_order, by rw [ht]; exact hP9, hD9⟩, hS.F ht⟩) hS.2.2 dX12_tries_246
      · refine lv_iload hx hb dX12_tries_45 (lv_at hl 6 rfl) ?_
        refine lv_aload_n hx hb dX12_tries_47 rfl (lv_at hl 1 rfl) ?_
        refine va_get (D := E.1) (ci := 12) (v := .ref (q 52)) (C := RX12) (T := TX12) (N := 59) hx hb hts inX12 hown hK hP 0 rfl rfl 52 (by decide) fl133 (fun _ h9 => h9) rfl dX12_tries_48 ?_
        refine lv_iload hx hb dX12_tries_51 (lv_at hl 0 rfl) ?_
        refine va_iald hx hb hK hP 2 0 rfl rfl hi_3 dX12_tries_53 ?_
        refine lv_topi (fun x_22 ex_22 => ?_)
        have hv_23 : digOK x_22 := by rw [ex_22]; exact hI_order _ (vin_cl hi_3)
        refine lv_icmp_ge (tgt := 75) hx hb dX12_tries_54 (by decide) (fun c_24 => ?_) (fun c_24 => ?_)
        · refine lv_iconst (v := 0) hx hb dX12_tries_75 (by decide) ?_
          refine lv_istore (lv' := [(8, .int 0), (7, .int (nI ((128 * cr) + se_))), (0, .ref h0), (1, .int (nI cr)), (2, .int (nI po)), (3, .int da), (4, .int (nI se_)), (5, .int (nI ro)), (6, .int co_)]) hx hb dX12_tries_76 hl (by decide) rfl (fun ls hl => ?_)
          have hPl := hP.sub (ws' := [(h0, .inr (12, mG q i_taped i_size i_sort i_what i_at i_end i_worth i_faultKind i_faultPlace i_got i_worked (nI dl) i_isPlanned i_bestDone i_bestCost)), (q 51, .inl (E.2.1 0, 512, .inl a_least)), (q 52, .inl (E.2.1 0, 512, .inl a_order)), (q 49, .inl (E.2.1 0, 100, .inl a_flights)), (q 42, .inl (E.2.1 0, 7, .inl a_dFrom)), (q 43, .inl (E.2.1 0, 7, .inl a_dTo)), (q 44, .inl (E.2.1 0, 7, .inl a_dDays)), (q 45, .inl (E.2.1 0, 7, .inl a_dFirst)), (q 46, .inl (E.2.1 0, 7, .inl a_dLast))]) [0, 1, 2, 3, 4, 5, 6, 7, 8] rfl
          have hDl := hD.sub (ws' := [(h0, .inr (12, mG q i_taped i_size i_sort i_what i_at i_end i_worth i_faultKind i_faultPlace i_got i_worked (nI dl) i_isPlanned i_bestDone i_bestCost)), (q 51, .inl (E.2.1 0, 512, .inl a_least)), (q 52, .inl (E.2.1 0, 512, .inl a_order)), (q 49, .inl (E.2.1 0, 100, .inl a_flights)), (q 42, .inl (E.2.1 0, 7, .inl a_dFrom)), (q 43, .inl (E.2.1 0, 7, .inl a_dTo)), (q 44, .inl (E.2.1 0, 7, .inl a_dDays)), (q 45, .inl (E.2.1 0, 7, .inl a_dFirst)), (q 46, .inl (E.2.1 0, 7, .inl a_dLast))]) [0, 1, 2, 3, 4, 5, 6, 7, 8] (by decide) rfl
          refine lm_tries2 E h0 q i_taped i_size i_sort i_what i_at i_end i_worth i_faultKind i_faultPlace i_got i_worked i_isPlanned i_bestDone i_bestCost dl cr po se_ ro da co_ a_flights a_dFrom a_dTo a_dDays a_dFirst a_dLast hx hb hml hown hts hkn hst hA (by omega) (by omega) (by omega) (by omega) hbc hro hI_dFrom hI_dTo (fun n_25 n_26 H locs ls hI_order hP hD hS hl => ?_) 9 0 a_least a_order _ _ _ (by omega) (by omega) hI_order hPl hDl hS (lv_sub hl [2, 3, 4, 5, 6, 7, 8, 0] rfl)
          have hP : va_P E.1 vwCl [(h0, .inr (12, mG q i_taped i_size i_sort i_what i_at i_end i_worth i_faultKind i_faultPlace i_got i_worked (nI dl) i_isPlanned i_bestDone i_bestCost)), (q 51, .inl (E.2.1 0, 512, .inl n_25)), (q 52, .inl (E.2.1 0, 512, .inl n_26)), (q 49, .inl (E.2.1 0, 100, .inl a_flights)), (q 42, .inl (E.2.1 0, 7, .inl a_dFrom)), (q 43, .inl (E.2.1 0, 7, .inl a_dTo)), (q 44, .inl (E.2.1 0, 7, .inl a_dDays)), (q 45, .inl (E.2.1 0, 7, .inl a_dFirst)), (q 46, .inl (E.2.1 0, 7, .inl a_dLast))] H := hP
          have hD : va_D A [(h0, .inr (12, mG q i_taped i_size i_sort i_what i_at i_end i_worth i_faultKind i_faultPlace i_got i_worked (nI dl) i_isPlanned i_bestDone i_bestCost)), (q 51, .inl (E.2.1 0, 512, .inl n_25)), (q 52, .inl (E.2.1 0, 512, .inl n_26)), (q 49, .inl (E.2.1 0, 100, .inl a_flights)), (q 42, .inl (E.2.1 0, 7, .inl a_dFrom)), (q 43, .inl (E.2.1 0, 7, .inl a_dTo)), (q 44, .inl (E.2.1 0, 7, .inl a_dDays)), (q 45, .inl (E.2.1 0, 7, .inl a_dFirst)), (q 46, .inl (E.2.1 0, 7, .inl a_dLast))] := hD
          have hP9 := hP.sub (ws' := [(h0, .inr (12, mG q i_taped i_size i_sort i_what i_at i_end i_worth i_faultKind i_faultPlace i_got i_worked (nI dl) i_isPlanned i_bestDone i_bestCost)), (q 51, .inl (E.2.1 0, 512, .inl n_25)), (q 52, .inl (E.2.1 0, 512, .inl n_26)), (q 49, .inl (E.2.1 0, 100, .inl a_flights)), (q 42, .inl (E.2.1 0, 7, .inl a_dFrom)), (q 43, .inl (E.2.1 0, 7, .inl a_dTo)), (q 44, .inl (E.2.1 0, 7, .inl a_dDays)), (q 45, .inl (E.2.1 0, 7, .inl a_dFirst)), (q 46, .inl (E.2.1 0, 7, .inl a_dLast))]) [0, 1, 2, 3, 4, 5, 6, 7, 8] rfl
          have hD9 := hD.sub (ws' := [(h0, .inr (12, mG q i_taped i_size i_sort i_what i_at i_end i_worth i_faultKind i_faultPlace i_got i_worked (nI dl) i_isPlanned i_bestDone i_bestCost)), (q 51, .inl (E.2.1 0, 512, .inl n_25)), (q 52, .inl (E.2.1 0, 512, .inl n_26)), (q 49, .inl (E.2.1 0, 100, .inl a_flights)), (q 42, .inl (E.2.1 0, 7, .inl a_dFrom)), (q 43, .inl (E.2.1 0, 7, .inl a_dTo)), (q 44, .inl (E.2.1 0, 7, .inl a_dDays)), (q 45, .inl (E.2.1 0, 7, .inl a_dFirst)), (q 46, .inl (E.2.1 0, 7, .inl a_dLast))]) [0, 1, 2, 3, 4, 5, 6, 7, 8] (by decide) rfl
          exact W.vret hx hb hr (fun t ht hW => ⟨⟨(n_25, n_26), rfl, trivial, hI_order, by rw [ht]; exact hP9, hD9⟩, hS.F ht⟩) hS.2.2 dX12_tries_246
        · refine lv_aload_n hx hb dX12_tries_57 rfl (lv_at hl 1 rfl) ?_
          refine va_get (D := E.1) (ci := 12) (v := .ref (q 51)) (C := RX12) (T := TX12) (N := 59) hx hb hts inX12 hown hK hP 0 rfl rfl 51 (by decide) fl130 (fun _ h9 => h9) rfl dX12_tries_58 ?_
          refine lv_iload hx hb dX12_tries_61 (lv_at hl 0 rfl) ?_
          refine lv_iload hx hb dX12_tries_63 (lv_at hl 7 rfl) ?_
          refine va_iast hx hb hK hP hD hS 1 0 rfl rfl hi_3 dX12_tries_65 (fun H locs hP hD hS => ?_)
          have hP : va_P E.1 vwCl [(h0, .inr (12, mG q i_taped i_size i_sort i_what i_at i_end i_worth i_faultKind i_faultPlace i_got i_worked (nI dl) i_isPlanned i_bestDone i_bestCost)), (q 51, .inl (E.2.1 0, 512, .inl (upd a_least (nI ((128 * cr) + se_)).toNatClampNeg co_))), (q 52, .inl (E.2.1 0, 512, .inl a_order)), (q 49, .inl (E.2.1 0, 100, .inl a_flights)), (q 42, .inl (E.2.1 0, 7, .inl a_dFrom)), (q 43, .inl (E.2.1 0, 7, .inl a_dTo)), (q 44, .inl (E.2.1 0, 7, .inl a_dDays)), (q 45, .inl (E.2.1 0, 7, .inl a_dFirst)), (q 46, .inl (E.2.1 0, 7, .inl a_dLast))] H := hP
          have hD : va_D A [(h0, .inr (12, mG q i_taped i_size i_sort i_what i_at i_end i_worth i_faultKind i_faultPlace i_got i_worked (nI dl) i_isPlanned i_bestDone i_bestCost)), (q 51, .inl (E.2.1 0, 512, .inl (upd a_least (nI ((128 * cr) + se_)).toNatClampNeg co_))), (q 52, .inl (E.2.1 0, 512, .inl a_order)), (q 49, .inl (E.2.1 0, 100, .inl a_flights)), (q 42, .inl (E.2.1 0, 7, .inl a_dFrom)), (q 43, .inl (E.2.1 0, 7, .inl a_dTo)), (q 44, .inl (E.2.1 0, 7, .inl a_dDays)), (q 45, .inl (E.2.1 0, 7, .inl a_dFirst)), (q 46, .inl (E.2.1 0, 7, .inl a_dLast))] := hD
          obtain ⟨f_27, ef_27⟩ : ∃ g : Nat → Int32, g = upd a_least (nI ((128 * cr) + se_)).toNatClampNeg co_ := ⟨_, rfl⟩
          rw [← ef_27] at hP hD
          refine lv_aload_n hx hb dX12_tries_66 rfl (lv_at hl 1 rfl) ?_
          refine va_get (D := E.1) (ci := 12) (v := .ref (q 52)) (C := RX12) (T := TX12) (N := 59) hx hb hts inX12 hown hK hP 0 rfl rfl 52 (by decide) fl133 (fun _ h9 => h9) rfl dX12_tries_67 ?_
          refine lv_iload hx hb dX12_tries_70 (lv_at hl 0 rfl) ?_
          refine lv_iload hx hb dX12_tries_72 (lv_at hl 6 rfl) ?_
          refine va_iast hx hb hK hP hD hS 2 0 rfl rfl hi_3 dX12_tries_74 (fun H locs hP hD hS => ?_)
          have hP : va_P E.1 vwCl [(h0, .inr (12, mG q i_taped i_size i_sort i_what i_at i_end i_worth i_faultKind i_faultPlace i_got i_worked (nI dl) i_isPlanned i_bestDone i_bestCost)), (q 51, .inl (E.2.1 0, 512, .inl f_27)), (q 52, .inl (E.2.1 0, 512, .inl (upd a_order (nI ((128 * cr) + se_)).toNatClampNeg (nI ro)))), (q 49, .inl (E.2.1 0, 100, .inl a_flights)), (q 42, .inl (E.2.1 0, 7, .inl a_dFrom)), (q 43, .inl (E.2.1 0, 7, .inl a_dTo)), (q 44, .inl (E.2.1 0, 7, .inl a_dDays)), (q 45, .inl (E.2.1 0, 7, .inl a_dFirst)), (q 46, .inl (E.2.1 0, 7, .inl a_dLast))] H := hP
          have hD : va_D A [(h0, .inr (12, mG q i_taped i_size i_sort i_what i_at i_end i_worth i_faultKind i_faultPlace i_got i_worked (nI dl) i_isPlanned i_bestDone i_bestCost)), (q 51, .inl (E.2.1 0, 512, .inl f_27)), (q 52, .inl (E.2.1 0, 512, .inl (upd a_order (nI ((128 * cr) + se_)).toNatClampNeg (nI ro)))), (q 49, .inl (E.2.1 0, 100, .inl a_flights)), (q 42, .inl (E.2.1 0, 7, .inl a_dFrom)), (q 43, .inl (E.2.1 0, 7, .inl a_dTo)), (q 44, .inl (E.2.1 0, 7, .inl a_dDays)), (q 45, .inl (E.2.1 0, 7, .inl a_dFirst)), (q 46, .inl (E.2.1 0, 7, .inl a_dLast))] := hD
          obtain ⟨f_28, ef_28⟩ : ∃ g : Nat → Int32, g = upd a_order (nI ((128 * cr) + se_)).toNatClampNeg (nI ro) := ⟨_, rfl⟩
          rw [← ef_28] at hP hD
          have hI_29 : ∀ k : Nat, k < 512 → digOK (f_28 k) := by rw [ef_28]; exact all_upd (P := fun z => digOK z) hI_order (dg_OK hro (by decide))
          refine lv_iconst (v := 0) hx hb dX12_tries_75 (by decide) ?_
          refine lv_istore (lv' := [(8, .int 0), (7, .int (nI ((128 * cr) + se_))), (0, .ref h0), (1, .int (nI cr)), (2, .int (nI po)), (3, .int da), (4, .int (nI se_)), (5, .int (nI ro)), (6, .int co_)]) hx hb dX12_tries_76 hl (by decide) rfl (fun ls hl => ?_)
          have hPl := hP.sub (ws' := [(h0, .inr (12, mG q i_taped i_size i_sort i_what i_at i_end i_worth i_faultKind i_faultPlace i_got i_worked (nI dl) i_isPlanned i_bestDone i_bestCost)), (q 51, .inl (E.2.1 0, 512, .inl f_27)), (q 52, .inl (E.2.1 0, 512, .inl f_28)), (q 49, .inl (E.2.1 0, 100, .inl a_flights)), (q 42, .inl (E.2.1 0, 7, .inl a_dFrom)), (q 43, .inl (E.2.1 0, 7, .inl a_dTo)), (q 44, .inl (E.2.1 0, 7, .inl a_dDays)), (q 45, .inl (E.2.1 0, 7, .inl a_dFirst)), (q 46, .inl (E.2.1 0, 7, .inl a_dLast))]) [0, 1, 2, 3, 4, 5, 6, 7, 8] rfl
          have hDl := hD.sub (ws' := [(h0, .inr (12, mG q i_taped i_size i_sort i_what i_at i_end i_worth i_faultKind i_faultPlace i_got i_worked (nI dl) i_isPlanned i_bestDone i_bestCost)), (q 51, .inl (E.2.1 0, 512, .inl f_27)), (q 52, .inl (E.2.1 0, 512, .inl f_28)), (q 49, .inl (E.2.1 0, 100, .inl a_flights)), (q 42, .inl (E.2.1 0, 7, .inl a_dFrom)), (q 43, .inl (E.2.1 0, 7, .inl a_dTo)), (q 44, .inl (E.2.1 0, 7, .inl a_dDays)), (q 45, .inl (E.2.1 0, 7, .inl a_dFirst)), (q 46, .inl (E.2.1 0, 7, .inl a_dLast))]) [0, 1, 2, 3, 4, 5, 6, 7, 8] (by decide) rfl
          refine lm_tries2 E h0 q i_taped i_size i_sort i_what i_at i_end i_worth i_faultKind i_faultPlace i_got i_worked i_isPlanned i_bestDone i_bestCost dl cr po se_ ro da co_ a_flights a_dFrom a_dTo a_dDays a_dFirst a_dLast hx hb hml hown hts hkn hst hA (by omega) (by omega) (by omega) (by omega) hbc hro hI_dFrom hI_dTo (fun n_30 n_31 H locs ls hI_order hP hD hS hl => ?_) 9 0 f_27 f_28 _ _ _ (by omega) (by omega) hI_29 hPl hDl hS (lv_sub hl [2, 3, 4, 5, 6, 7, 8, 0] rfl)
          have hP : va_P E.1 vwCl [(h0, .inr (12, mG q i_taped i_size i_sort i_what i_at i_end i_worth i_faultKind i_faultPlace i_got i_worked (nI dl) i_isPlanned i_bestDone i_bestCost)), (q 51, .inl (E.2.1 0, 512, .inl n_30)), (q 52, .inl (E.2.1 0, 512, .inl n_31)), (q 49, .inl (E.2.1 0, 100, .inl a_flights)), (q 42, .inl (E.2.1 0, 7, .inl a_dFrom)), (q 43, .inl (E.2.1 0, 7, .inl a_dTo)), (q 44, .inl (E.2.1 0, 7, .inl a_dDays)), (q 45, .inl (E.2.1 0, 7, .inl a_dFirst)), (q 46, .inl (E.2.1 0, 7, .inl a_dLast))] H := hP
          have hD : va_D A [(h0, .inr (12, mG q i_taped i_size i_sort i_what i_at i_end i_worth i_faultKind i_faultPlace i_got i_worked (nI dl) i_isPlanned i_bestDone i_bestCost)), (q 51, .inl (E.2.1 0, 512, .inl n_30)), (q 52, .inl (E.2.1 0, 512, .inl n_31)), (q 49, .inl (E.2.1 0, 100, .inl a_flights)), (q 42, .inl (E.2.1 0, 7, .inl a_dFrom)), (q 43, .inl (E.2.1 0, 7, .inl a_dTo)), (q 44, .inl (E.2.1 0, 7, .inl a_dDays)), (q 45, .inl (E.2.1 0, 7, .inl a_dFirst)), (q 46, .inl (E.2.1 0, 7, .inl a_dLast))] := hD
          have hP9 := hP.sub (ws' := [(h0, .inr (12, mG q i_taped i_size i_sort i_what i_at i_end i_worth i_faultKind i_faultPlace i_got i_worked (nI dl) i_isPlanned i_bestDone i_bestCost)), (q 51, .inl (E.2.1 0, 512, .inl n_30)), (q 52, .inl (E.2.1 0, 512, .inl n_31)), (q 49, .inl (E.2.1 0, 100, .inl a_flights)), (q 42, .inl (E.2.1 0, 7, .inl a_dFrom)), (q 43, .inl (E.2.1 0, 7, .inl a_dTo)), (q 44, .inl (E.2.1 0, 7, .inl a_dDays)), (q 45, .inl (E.2.1 0, 7, .inl a_dFirst)), (q 46, .inl (E.2.1 0, 7, .inl a_dLast))]) [0, 1, 2, 3, 4, 5, 6, 7, 8] rfl
          have hD9 := hD.sub (ws' := [(h0, .inr (12, mG q i_taped i_size i_sort i_what i_at i_end i_worth i_faultKind i_faultPlace i_got i_worked (nI dl) i_isPlanned i_bestDone i_bestCost)), (q 51, .inl (E.2.1 0, 512, .inl n_30)), (q 52, .inl (E.2.1 0, 512, .inl n_31)), (q 49, .inl (E.2.1 0, 100, .inl a_flights)), (q 42, .inl (E.2.1 0, 7, .inl a_dFrom)), (q 43, .inl (E.2.1 0, 7, .inl a_dTo)), (q 44, .inl (E.2.1 0, 7, .inl a_dDays)), (q 45, .inl (E.2.1 0, 7, .inl a_dFirst)), (q 46, .inl (E.2.1 0, 7, .inl a_dLast))]) [0, 1, 2, 3, 4, 5, 6, 7, 8] (by decide) rfl
          exact W.vret hx hb hr (fun t ht hW => ⟨⟨(n_30, n_31), rfl, trivial, hI_order, by rw [ht]; exact hP9, hD9⟩, hS.F ht⟩) hS.2.2 dX12_tries_246
set_option maxHeartbeats 4000000 in
set_option maxRecDepth 100000 in
theorem lm_tries1 {p : Program} {l : Launch} {e : Env} {s : State} {m : MethodId} {args : Array Value} {below : List Frame} {meth : Method} {c : Code} {Q : State → Prop} {A : Nat → Prop} (E : vE) (h0 : Nat) (q : Nat → Nat) (i_taped : Int32) (i_size : Int32) (i_sort : Int32) (i_what : Int32) (i_at : Int32) (i_end : Int32) (i_worth : Int32) (i_faultKind : Int32) (i_faultPlace : Int32) (i_got : Int32) (i_worked : Int32) (i_isPlanned : Int32) (i_bestDone : Int32) (i_bestCost : Int32) (dl : Nat) (cr : Nat) (po : Nat) (se_ : Nat) (ro : Nat) (da : Int32) (co_ : Int32) (a_flights : Nat → Int32) (a_dFrom : Nat → Int32) (a_dTo : Nat → Int32) (a_dDays : Nat → Int32) (a_dFirst : Nat → Int32) (a_dLast : Nat → Int32) (hx : p.tables.exec = Jvm.exec) (hb : c.code = cX12_tries) (hml : c.maxLocals = 11) (hown : s.vm.findClass RX12 = some m.cls) (hts : ∀ w ∈ wsX12_tries, w.before args s = true) (hkn : kn E s) (hst : st E A s s.heap) (hA : ∀ q : Nat, s.heap.size ≤ q → A q) (hcr : cr < 4) (hpo : po ≤ 9) (hse : se_ < 128) (hdl : dl ≤ 7) (hbc : bc7 se_ = 1) (hro : dg ro 1) (hI_dFrom : ∀ k : Nat, k < 7 → inR (a_dFrom k) 0 9 = true) (hI_dTo : ∀ k : Nat, k < 7 → inR (a_dTo k) 0 9 = true) (kk : ∀ (a_least : Nat → Int32) (a_order : Nat → Int32) (H : Heap) (locs : List Loc) (ls : Array Slot), (∀ k : Nat, k < 512 → digOK (a_order k)) → va_P E.1 vwCl [(h0, .inr (12, mG q i_taped i_size i_sort i_what i_at i_end i_worth i_faultKind i_faultPlace i_got i_worked (nI dl) i_isPlanned i_bestDone i_bestCost)), (q 51, .inl (E.2.1 0, 512, .inl a_least)), (q 52, .inl (E.2.1 0, 512, .inl a_order)), (q 49, .inl (E.2.1 0, 100, .inl a_flights)), (q 42, .inl (E.2.1 0, 7, .inl a_dFrom)), (q 43, .inl (E.2.1 0, 7, .inl a_dTo)), (q 44, .inl (E.2.1 0, 7, .inl a_dDays)), (q 45, .inl (E.2.1 0, 7, .inl a_dFirst)), (q 46, .inl (E.2.1 0, 7, .inl a_dLast))] H → va_D A [(h0, .inr (12, mG q i_taped i_size i_sort i_what i_at i_end i_worth i_faultKind i_faultPlace i_got i_worked (nI dl) i_isPlanned i_bestDone i_bestCost)), (q 51, .inl (E.2.1 0, 512, .inl a_least)), (q 52, .inl (E.2.1 0, 512, .inl a_order)), (q 49, .inl (E.2.1 0, 100, .inl a_flights)), (q 42, .inl (E.2.1 0, 7, .inl a_dFrom)), (q 43, .inl (E.2.1 0, 7, .inl a_dTo)), (q 44, .inl (E.2.1 0, 7, .inl a_dDays)), (q 45, .inl (E.2.1 0, 7, .inl a_dFirst)), (q 46, .inl (E.2.1 0, 7, .inl a_dLast))] → va_S A s.heap H locs → lv_has ls 11 [(0, .ref h0)] → W p l e ({ frames := 6, cells := 0, slots := 0, locals := 180 }) s m args below meth c H locs 0 0 Q (F0 m 246 ls [])) : ∀ (n0 : Nat) (k : Nat) (a_least : Nat → Int32) (a_order : Nat → Int32) (H : Heap) (locs : List Loc) (ls : Array Slot), 8 - k < n0 → (k ≤ 7) → (∀ k : Nat, k < 512 → digOK (a_order k)) → va_P E.1 vwCl [(h0, .inr (12, mG q i_taped i_size i_sort i_what i_at i_end i_worth i_faultKind i_faultPlace i_got i_worked (nI dl) i_isPlanned i_bestDone i_bestCost)), (q 51, .inl (E.2.1 0, 512, .inl a_least)), (q 52, .inl (E.2.1 0, 512, .inl a_order)), (q 49, .inl (E.2.1 0, 100, .inl a_flights)), (q 42, .inl (E.2.1 0, 7, .inl a_dFrom)), (q 43, .inl (E.2.1 0, 7, .inl a_dTo)), (q 44, .inl (E.2.1 0, 7, .inl a_dDays)), (q 45, .inl (E.2.1 0, 7, .inl a_dFirst)), (q 46, .inl (E.2.1 0, 7, .inl a_dLast))] H → va_D A [(h0, .inr (12, mG q i_taped i_size i_sort i_what i_at i_end i_worth i_faultKind i_faultPlace i_got i_worked (nI dl) i_isPlanned i_bestDone i_bestCost)), (q 51, .inl (E.2.1 0, 512, .inl a_least)), (q 52, .inl (E.2.1 0, 512, .inl a_order)), (q 49, .inl (E.2.1 0, 100, .inl a_flights)), (q 42, .inl (E.2.1 0, 7, .inl a_dFrom)), (q 43, .inl (E.2.1 0, 7, .inl a_dTo)), (q 44, .inl (E.2.1 0, 7, .inl a_dDays)), (q 45, .inl (E.2.1 0, 7, .inl a_dFirst)), (q 46, .inl (E.2.1 0, 7, .inl a_dLast))] → va_S A s.heap H locs → lv_has ls 11 [(0, .ref h0), (1, .int (nI cr)), (2, .int (nI po)), (3, .int da), (4, .int (nI se_)), (5, .int (nI ro)), (6, .int co_), (8, .int (nI k))] → W p l e ({ frames := 6, cells := 0, slots := 0, locals := 180 }) s m args below meth c H locs 0 0 Q (F0 m 78 ls []) := by
  have hK := hkn.1
  have hAO := hkn.2.2.1
  have fl106 := hts (.fieldLink RX12 106 "BoatsHomeModel" "dFrom" "[I") (by first | exact List.mem_of_getElem? (i := 5) rfl | decide +kernel)
  have fl109 := hts (.fieldLink RX12 109 "BoatsHomeModel" "dTo" "[I") (by first | exact List.mem_of_getElem? (i := 8) rfl | decide +kernel)
  have fl112 := hts (.fieldLink RX12 112 "BoatsHomeModel" "dDays" "[I") (by first | exact List.mem_of_getElem? (i := 9) rfl | decide +kernel)
  have fl115 := hts (.fieldLink RX12 115 "BoatsHomeModel" "dFirst" "[I") (by first | exact List.mem_of_getElem? (i := 6) rfl | decide +kernel)
  have fl118 := hts (.fieldLink RX12 118 "BoatsHomeModel" "dLast" "[I") (by first | exact List.mem_of_getElem? (i := 7) rfl | decide +kernel)
  have fl127 := hts (.fieldLink RX12 127 "BoatsHomeModel" "flights" "[I") (by first | exact List.mem_of_getElem? (i := 4) rfl | decide +kernel)
  have fl130 := hts (.fieldLink RX12 130 "BoatsHomeModel" "least" "[I") (by first | exact List.mem_of_getElem? (i := 1) rfl | decide +kernel)
  have fl133 := hts (.fieldLink RX12 133 "BoatsHomeModel" "order" "[I") (by first | exact List.mem_of_getElem? (i := 2) rfl | decide +kernel)
  have fl289 := hts (.fieldLink RX12 289 "BoatsHomeModel" "deliveries" "I") (by first | exact List.mem_of_getElem? (i := 3) rfl | decide +kernel)
  have inX12 : ∀ w ∈ u_ws RX12 TX12 59, w ∈ wsX12_tries := by first | exact fun w h9 => (List.mem_cons_of_mem _ (List.mem_append_right _ h9)) | decide +kernel
  intro n0
  induction n0 with
  | zero =>
    intro k a_least a_order H locs ls hn0
    exact absurd hn0 (Nat.not_lt_zero _)
  | succ n0 ih =>
    intro k a_least a_order H locs ls hn0 hk hI_order hP hD hS hl
    refine lv_iload hx hb dX12_tries_78 (lv_at hl 7 rfl) ?_
    refine lv_aload_n hx hb dX12_tries_80 rfl (lv_at hl 0 rfl) ?_
    refine va_get (D := E.1) (ci := 12) (v := .int (nI dl)) (C := RX12) (T := TX12) (N := 59) hx hb hts inX12 hown hK hP 0 rfl rfl 41 (by decide) fl289 (fun _ h9 => h9) rfl dX12_tries_81 ?_
    refine lv_icmp_ge (tgt := 246) hx hb dX12_tries_84 (by decide) (fun c_1 => ?_) (fun c_1 => ?_)
    · exact kk a_least a_order _ _ _ hI_order (hP.sub [0, 1, 2, 3, 4, 5, 6, 7, 8] rfl) (hD.sub [0, 1, 2, 3, 4, 5, 6, 7, 8] (by decide) rfl) hS (lv_sub hl [0] rfl)
    · have hlt : k < 7 := by have := lt_of_nle (by omega) c_1; omega
      refine lv_iload hx hb dX12_tries_87 (lv_at hl 4 rfl) ?_
      refine lv_iload hx hb dX12_tries_89 (lv_at hl 7 rfl) ?_
      refine lv_ishr hx hb dX12_tries_91 ?_
      refine lv_topi (fun x_2 ex_2 => ?_)
      refine lv_iconst (v := 1) hx hb dX12_tries_92 (by decide) ?_
      refine lv_iand hx hb dX12_tries_93 ?_
      refine lv_topi (fun x_3 ex_3 => ?_)
      refine lv_iconst (v := 1) hx hb dX12_tries_94 (by decide) ?_
      refine lv_icmp_eq (tgt := 240) hx hb dX12_tries_95 (by decide) (fun c_4 => ?_) (fun c_4 => ?_)
      · refine lv_iinc (v := (nI (k + 1))) (lv' := [(8, .int (nI (k + 1))), (0, .ref h0), (1, .int (nI cr)), (2, .int (nI po)), (3, .int da), (4, .int (nI se_)), (5, .int (nI ro)), (6, .int co_)]) hx hb dX12_tries_240 hl (k := 7) rfl (show nI k + 1 = nI (k + 1) from nI_1 k) (by decide) rfl (fun ls hl => ?_)
        refine lv_goto (tgt := 78) hx hb dX12_tries_243 (by decide) ?_
        exact ih (k + 1) a_least a_order _ _ _ (by omega) (by omega) hI_order (hP.sub [0, 1, 2, 3, 4, 5, 6, 7, 8] rfl) (hD.sub [0, 1, 2, 3, 4, 5, 6, 7, 8] (by decide) rfl) hS (lv_sub hl [1, 2, 3, 4, 5, 6, 7, 0] rfl)
      · refine lv_aload_n hx hb dX12_tries_98 rfl (lv_at hl 0 rfl) ?_
        refine va_get (D := E.1) (ci := 12) (v := .ref (q 49)) (C := RX12) (T := TX12) (N := 59) hx hb hts inX12 hown hK hP 0 rfl rfl 49 (by decide) fl127 (fun _ h9 => h9) rfl dX12_tries_99 ?_
        refine lv_bipush (v := 10) hx hb dX12_tries_102 (by decide) ?_
        refine lv_iload_n hx hb dX12_tries_104 rfl (lv_at hl 2 rfl) ?_
        refine lv_imul hx hb dX12_tries_105 ?_
        refine lv_topi (fun x_5 ex_5 => ?_)
        obtain rfl : x_5 = nI (10 * po) := ex_5.trans (pk_mul 10 po)
        refine lv_aload_n hx hb dX12_tries_106 rfl (lv_at hl 0 rfl) ?_
        refine va_get (D := E.1) (ci := 12) (v := .ref (q 42)) (C := RX12) (T := TX12) (N := 59) hx hb hts inX12 hown hK hP 0 rfl rfl 42 (by decide) fl106 (fun _ h9 => h9) rfl dX12_tries_107 ?_
        refine lv_iload hx hb dX12_tries_110 (lv_at hl 7 rfl) ?_
        have hi_6 : vp_in (nI k) 7 := vp_in_nI (by omega) (by decide)
        refine va_iald hx hb hK hP 4 0 rfl rfl hi_6 dX12_tries_112 ?_
        refine lv_topi (fun x_7 ex_7 => ?_)
        have hv_8 : inR x_7 0 9 = true := by rw [ex_7]; exact hI_dFrom _ (vin_cl hi_6)
        obtain ⟨w_9, hw_10, ew_11⟩ := inR_nI (n := 9) (by decide) hv_8
        subst ew_11
        refine lv_iadd hx hb dX12_tries_113 ?_
        refine lv_topi (fun x_12 ex_12 => ?_)
        obtain rfl : x_12 = nI ((10 * po) + w_9) := ex_12.trans (nI_add (10 * po) w_9)
        have hi_13 : vp_in (nI ((10 * po) + w_9)) 100 := vp_in_nI (by omega) (by decide)
        refine va_iald hx hb hK hP 3 0 rfl rfl hi_13 dX12_tries_114 ?_
        refine lv_topi (fun x_14 ex_14 => ?_)
        refine lv_iconst (v := (-1)) hx hb dX12_tries_115 (by decide) ?_
        refine lv_icmp_ne (tgt := 122) hx hb dX12_tries_116 (by decide) (fun c_15 => ?_) (fun c_15 => ?_)
        · refine lv_iload_n hx hb dX12_tries_122 rfl (lv_at hl 3 rfl) ?_
          refine lv_iload_n hx hb dX12_tries_123 rfl (lv_at hl 2 rfl) ?_
          refine lv_aload_n hx hb dX12_tries_124 rfl (lv_at hl 0 rfl) ?_
          refine va_get (D := E.1) (ci := 12) (v := .ref (q 42)) (C := RX12) (T := TX12) (N := 59) hx hb hts inX12 hown hK hP 0 rfl rfl 42 (by decide) fl106 (fun _ h9 => h9) rfl dX12_tries_125 ?_
          refine lv_iload hx hb dX12_tries_128 (lv_at hl 7 rfl) ?_
          refine va_iald hx hb hK hP 4 0 rfl rfl hi_6 dX12_tries_130 ?_
          refine lv_topi (fun x_16 ex_16 => ?_)
          obtain rfl : x_16 = nI w_9 := ex_16.trans ex_7.symm
          refine lv_icmp_ne (tgt := 138) hx hb dX12_tries_131 (by decide) (fun c_17 => ?_) (fun c_17 => ?_)
          · refine lv_iconst (v := 1) hx hb dX12_tries_138 (by decide) ?_
            refine lv_iadd hx hb dX12_tries_139 ?_
            refine lv_topi (fun x_18 ex_18 => ?_)
            refine lv_istore (lv' := [(9, .int x_18), (0, .ref h0), (1, .int (nI cr)), (2, .int (nI po)), (3, .int da), (4, .int (nI se_)), (5, .int (nI ro)), (6, .int co_), (8, .int (nI k))]) hx hb dX12_tries_140 hl (by decide) rfl (fun ls hl => ?_)
            refine lv_iload hx hb dX12_tries_142 (lv_at hl 0 rfl) ?_
            refine lv_aload_n hx hb dX12_tries_144 rfl (lv_at hl 1 rfl) ?_
            refine va_get (D := E.1) (ci := 12) (v := .ref (q 45)) (C := RX12) (T := TX12) (N := 59) hx hb hts inX12 hown hK hP 0 rfl rfl 45 (by decide) fl115 (fun _ h9 => h9) rfl dX12_tries_145 ?_
            refine lv_iload hx hb dX12_tries_148 (lv_at hl 8 rfl) ?_
            refine va_iald hx hb hK hP 7 0 rfl rfl hi_6 dX12_tries_150 ?_
            refine lv_topi (fun x_19 ex_19 => ?_)
            refine lv_icmp_le (tgt := 159) hx hb dX12_tries_151 (by decide) (fun c_20 => ?_) (fun c_20 => ?_)
            · refine lv_aload_n hx hb dX12_tries_159 rfl (lv_at hl 1 rfl) ?_
              refine va_get (D := E.1) (ci := 12) (v := .ref (q 45)) (C := RX12) (T := TX12) (N := 59) hx hb hts inX12 hown hK hP 0 rfl rfl 45 (by decide) fl115 (fun _ h9 => h9) rfl dX12_tries_160 ?_
              refine lv_iload hx hb dX12_tries_163 (lv_at hl 8 rfl) ?_
              refine va_iald hx hb hK hP 7 0 rfl rfl hi_6 dX12_tries_165 ?_
              refine lv_topi (fun x_21 ex_21 => ?_)
              refine lv_istore (lv' := [(10, .int x_21), (9, .int x_18), (0, .ref h0), (1, .int (nI cr)), (2, .int (nI po)), (3, .int da), (4, .int (nI se_)), (5, .int (nI ro)), (6, .int co_), (8, .int (nI k))]) hx hb dX12_tries_166 hl (by decide) rfl (fun ls hl => ?_)
              refine lv_iload hx hb dX12_tries_168 (lv_at hl 0 rfl) ?_
              refine lv_aload_n hx hb dX12_tries_170 rfl (lv_at hl 2 rfl) ?_
              refine va_get (D := E.1) (ci := 12) (v := .ref (q 46)) (C := RX12) (T := TX12) (N := 59) hx hb hts inX12 hown hK hP 0 rfl rfl 46 (by decide) fl118 (fun _ h9 => h9) rfl dX12_tries_171 ?_
              refine lv_iload hx hb dX12_tries_174 (lv_at hl 9 rfl) ?_
              refine va_iald hx hb hK hP 8 0 rfl rfl hi_6 dX12_tries_176 ?_
              refine lv_topi (fun x_22 ex_22 => ?_)
              refine lv_icmp_le (tgt := 183) hx hb dX12_tries_177 (by decide) (fun c_23 => ?_) (fun c_23 => ?_)
              · refine lv_aload_n hx hb dX12_tries_183 rfl (lv_at hl 2 rfl) ?_
                refine lv_iload_n hx hb dX12_tries_184 rfl (lv_at hl 3 rfl) ?_
                refine lv_aload_n hx hb dX12_tries_185 rfl (lv_at hl 2 rfl) ?_
                refine va_get (D := E.1) (ci := 12) (v := .ref (q 43)) (C := RX12) (T := TX12) (N := 59) hx hb hts inX12 hown hK hP 0 rfl rfl 43 (by decide) fl109 (fun _ h9 => h9) rfl dX12_tries_186 ?_
                refine lv_iload hx hb dX12_tries_189 (lv_at hl 9 rfl) ?_
                refine va_iald hx hb hK hP 5 0 rfl rfl hi_6 dX12_tries_191 ?_
                refine lv_topi (fun x_24 ex_24 => ?_)
                have hv_25 : inR x_24 0 9 = true := by rw [ex_24]; exact hI_dTo _ (vin_cl hi_6)
                obtain ⟨w_26, hw_27, ew_28⟩ := inR_nI (n := 9) (by decide) hv_25
                subst ew_28
                refine lv_iload hx hb dX12_tries_192 (lv_at hl 0 rfl) ?_
                refine lv_aload_n hx hb dX12_tries_194 rfl (lv_at hl 2 rfl) ?_
                refine va_get (D := E.1) (ci := 12) (v := .ref (q 44)) (C := RX12) (T := TX12) (N := 59) hx hb hts inX12 hown hK hP 0 rfl rfl 44 (by decide) fl112 (fun _ h9 => h9) rfl dX12_tries_195 ?_
                refine lv_iload hx hb dX12_tries_198 (lv_at hl 9 rfl) ?_
                refine va_iald hx hb hK hP 6 0 rfl rfl hi_6 dX12_tries_200 ?_
                refine lv_topi (fun x_29 ex_29 => ?_)
                refine lv_iadd hx hb dX12_tries_201 ?_
                refine lv_topi (fun x_30 ex_30 => ?_)
                refine lv_iload hx hb dX12_tries_202 (lv_at hl 6 rfl) ?_
                refine lv_iconst (v := 1) hx hb dX12_tries_204 (by decide) ?_
                refine lv_iload hx hb dX12_tries_205 (lv_at hl 9 rfl) ?_
                refine lv_ishl hx hb dX12_tries_207 ?_
                refine lv_topi (fun x_31 ex_31 => ?_)
                refine lv_ior hx hb dX12_tries_208 ?_
                refine lv_topi (fun x_32 ex_32 => ?_)
                obtain ⟨w_33, hw_34, hw_34b, hw_34e⟩ : ∃ w, w < 128 ∧ bc7 w = 1 + 1 ∧ x_32 = nI w := by rw [ex_32, ex_31]; exact tr_bit hse hlt hbc (by rw [ex_3, ex_2] at c_4; exact c_4)
                subst hw_34e
                refine lv_bipush (v := 8) hx hb dX12_tries_209 (by decide) ?_
                refine lv_iload hx hb dX12_tries_211 (lv_at hl 7 rfl) ?_
                refine lv_imul hx hb dX12_tries_213 ?_
                refine lv_topi (fun x_35 ex_35 => ?_)
                obtain rfl : x_35 = nI (8 * ro) := ex_35.trans (pk_mul 8 ro)
                refine lv_iload hx hb dX12_tries_214 (lv_at hl 9 rfl) ?_
                refine lv_iadd hx hb dX12_tries_216 ?_
                refine lv_topi (fun x_36 ex_36 => ?_)
                obtain rfl : x_36 = nI ((8 * ro) + k) := ex_36.trans (nI_add (8 * ro) k)
                refine lv_iload hx hb dX12_tries_217 (lv_at hl 8 rfl) ?_
                refine lv_aload_n hx hb dX12_tries_219 rfl (lv_at hl 2 rfl) ?_
                refine va_get (D := E.1) (ci := 12) (v := .ref (q 49)) (C := RX12) (T := TX12) (N := 59) hx hb hts inX12 hown hK hP 0 rfl rfl 49 (by decide) fl127 (fun _ h9 => h9) rfl dX12_tries_220 ?_
                refine lv_bipush (v := 10) hx hb dX12_tries_223 (by decide) ?_
                refine lv_iload_n hx hb dX12_tries_225 rfl (lv_at hl 4 rfl) ?_
                refine lv_imul hx hb dX12_tries_226 ?_
                refine lv_topi (fun x_37 ex_37 => ?_)
                obtain rfl : x_37 = nI (10 * po) := ex_37.trans (pk_mul 10 po)
                refine lv_aload_n hx hb dX12_tries_227 rfl (lv_at hl 2 rfl) ?_
                refine va_get (D := E.1) (ci := 12) (v := .ref (q 42)) (C := RX12) (T := TX12) (N := 59) hx hb hts inX12 hown hK hP 0 rfl rfl 42 (by decide) fl106 (fun _ h9 => h9) rfl dX12_tries_228 ?_
                refine lv_iload hx hb dX12_tries_231 (lv_at hl 9 rfl) ?_
                refine va_iald hx hb hK hP 4 0 rfl rfl hi_6 dX12_tries_233 ?_
                refine lv_topi (fun x_38 ex_38 => ?_)
                obtain rfl : x_38 = nI w_9 := ex_38.trans ex_7.symm
                refine lv_iadd hx hb dX12_tries_234 ?_
                refine lv_topi (fun x_39 ex_39 => ?_)
                obtain rfl : x_39 = nI ((10 * po) + w_9) := ex_39.trans (nI_add (10 * po) w_9)
                refine va_iald hx hb hK hP 3 0 rfl rfl hi_13 dX12_tries_235 ?_
                refine lv_topi (fun x_40 ex_40 => ?_)
                refine lv_iadd hx hb dX12_tries_236 ?_
                refine lv_topi (fun x_41 ex_41 => ?_)
                have hPc := hP.sub (ws' := [(h0, .inr (12, mG q i_taped i_size i_sort i_what i_at i_end i_worth i_faultKind i_faultPlace i_got i_worked (nI dl) i_isPlanned i_bestDone i_bestCost)), (q 51, .inl (E.2.1 0, 512, .inl a_least)), (q 52, .inl (E.2.1 0, 512, .inl a_order)), (q 49, .inl (E.2.1 0, 100, .inl a_flights)), (q 42, .inl (E.2.1 0, 7, .inl a_dFrom)), (q 43, .inl (E.2.1 0, 7, .inl a_dTo)), (q 44, .inl (E.2.1 0, 7, .inl a_dDays)), (q 45, .inl (E.2.1 0, 7, .inl a_dFirst)), (q 46, .inl (E.2.1 0, 7, .inl a_dLast))]) [0, 1, 2, 3, 4, 5, 6, 7, 8] rfl
                have hDc := hD.sub (ws' := [(h0, .inr (12, mG q i_taped i_size i_sort i_what i_at i_end i_worth i_faultKind i_faultPlace i_got i_worked (nI dl) i_isPlanned i_bestDone i_bestCost)), (q 51, .inl (E.2.1 0, 512, .inl a_least)), (q 52, .inl (E.2.1 0, 512, .inl a_order)), (q 49, .inl (E.2.1 0, 100, .inl a_flights)), (q 42, .inl (E.2.1 0, 7, .inl a_dFrom)), (q 43, .inl (E.2.1 0, 7, .inl a_dTo)), (q 44, .inl (E.2.1 0, 7, .inl a_dDays)), (q 45, .inl (E.2.1 0, 7, .inl a_dFirst)), (q 46, .inl (E.2.1 0, 7, .inl a_dLast))]) [0, 1, 2, 3, 4, 5, 6, 7, 8] (by decide) rfl
                have hFc := va_free (wc := [(h0, .inr (12, mG q i_taped i_size i_sort i_what i_at i_end i_worth i_faultKind i_faultPlace i_got i_worked (nI dl) i_isPlanned i_bestDone i_bestCost)), (q 51, .inl (E.2.1 0, 512, .inl a_least)), (q 52, .inl (E.2.1 0, 512, .inl a_order)), (q 49, .inl (E.2.1 0, 100, .inl a_flights)), (q 42, .inl (E.2.1 0, 7, .inl a_dFrom)), (q 43, .inl (E.2.1 0, 7, .inl a_dTo)), (q 44, .inl (E.2.1 0, 7, .inl a_dDays)), (q 45, .inl (E.2.1 0, 7, .inl a_dFirst)), (q 46, .inl (E.2.1 0, 7, .inl a_dLast))]) hD hS hA [0, 1, 2, 3, 4, 5, 6, 7, 8] rfl
                refine va_callv (va_runV (As := [.int (nI cr), .int (nI w_26), .int x_30, .int (nI w_33), .int (nI ((8 * ro) + k)), .int x_41]) (rest := []) ⟨hx, hb, hml, hown, hts⟩ (c_X12_tries2 l E h0 q i_taped i_size i_sort i_what i_at i_end i_worth i_faultKind i_faultPlace i_got i_worked i_isPlanned i_bestDone i_bestCost dl cr w_26 w_33 ((8 * ro) + k) a_least a_order a_flights a_dFrom a_dTo a_dDays a_dFirst a_dLast x_30 x_41 H.size hcr (by omega) hw_34 hdl hw_34b (dg_step hro hlt) hI_order hI_dFrom hI_dTo) (cwV 6 hts gX12_tries_X12_tries rfl rfl rfl hdV_X12_tries ⟨Nat.le_of_ble_eq_true rfl, Nat.le_of_ble_eq_true rfl⟩) ⟨pcW_blind, va_recv hK hPc (ci := 12) (q0 := 0) rfl rfl, (pcW_pre hPc hkn hDc hst hS hFc)⟩ rfl rfl hl.1 rfl (lv_room (Nat.le_of_ble_eq_true rfl)) dX12_tries_237 ⟨Nat.le_of_ble_eq_true rfl, Nat.le_of_ble_eq_true rfl⟩) hS (fun q _ h => hFc q h) hFc (fun u t H1 locs ht hvm hw_43 hB hz1 hk1 hS => ?_)
                obtain ⟨u_44, u_45⟩ := u
                obtain ⟨hf_46, hP1, hD1⟩ := hB
                rw [ht] at hP1
                try dsimp only at hw_43
                obtain ⟨hP, hD⟩ := va_join (wr := []) (w1 := [(h0, .inr (12, mG q i_taped i_size i_sort i_what i_at i_end i_worth i_faultKind i_faultPlace i_got i_worked (nI dl) i_isPlanned i_bestDone i_bestCost)), (q 51, .inl (E.2.1 0, 512, .inl u_44)), (q 52, .inl (E.2.1 0, 512, .inl u_45)), (q 49, .inl (E.2.1 0, 100, .inl a_flights)), (q 42, .inl (E.2.1 0, 7, .inl a_dFrom)), (q 43, .inl (E.2.1 0, 7, .inl a_dTo)), (q 44, .inl (E.2.1 0, 7, .inl a_dDays)), (q 45, .inl (E.2.1 0, 7, .inl a_dFirst)), (q 46, .inl (E.2.1 0, 7, .inl a_dLast))]) hP hD [0, 1, 2, 3, 4, 5, 6, 7, 8] [] rfl rfl (by decide) (by decide) hk1 hFc hP1 hD1
                generalize H1 = H at hP hS ⊢
                have hP : va_P E.1 vwCl [(h0, .inr (12, mG q i_taped i_size i_sort i_what i_at i_end i_worth i_faultKind i_faultPlace i_got i_worked (nI dl) i_isPlanned i_bestDone i_bestCost)), (q 51, .inl (E.2.1 0, 512, .inl u_44)), (q 52, .inl (E.2.1 0, 512, .inl u_45)), (q 49, .inl (E.2.1 0, 100, .inl a_flights)), (q 42, .inl (E.2.1 0, 7, .inl a_dFrom)), (q 43, .inl (E.2.1 0, 7, .inl a_dTo)), (q 44, .inl (E.2.1 0, 7, .inl a_dDays)), (q 45, .inl (E.2.1 0, 7, .inl a_dFirst)), (q 46, .inl (E.2.1 0, 7, .inl a_dLast))] H := hP
                have hD : va_D A [(h0, .inr (12, mG q i_taped i_size i_sort i_what i_at i_end i_worth i_faultKind i_faultPlace i_got i_worked (nI dl) i_isPlanned i_bestDone i_bestCost)), (q 51, .inl (E.2.1 0, 512, .inl u_44)), (q 52, .inl (E.2.1 0, 512, .inl u_45)), (q 49, .inl (E.2.1 0, 100, .inl a_flights)), (q 42, .inl (E.2.1 0, 7, .inl a_dFrom)), (q 43, .inl (E.2.1 0, 7, .inl a_dTo)), (q 44, .inl (E.2.1 0, 7, .inl a_dDays)), (q 45, .inl (E.2.1 0, 7, .inl a_dFirst)), (q 46, .inl (E.2.1 0, 7, .inl a_dLast))] := hD
                refine lv_iinc (v := (nI (k + 1))) (lv' := [(8, .int (nI (k + 1))), (10, .int x_21), (9, .int x_18), (0, .ref h0), (1, .int (nI cr)), (2, .int (nI po)), (3, .int da), (4, .int (nI se_)), (5, .int (nI ro)), (6, .int co_)]) hx hb dX12_tries_240 hl (k := 9) rfl (show nI k + 1 = nI (k + 1) from nI_1 k) (by decide) rfl (fun ls hl => ?_)
                refine lv_goto (tgt := 78) hx hb dX12_tries_243 (by decide) ?_
                exact ih (k + 1) u_44 u_45 _ _ _ (by omega) (by omega) hf_46 (hP.sub [0, 1, 2, 3, 4, 5, 6, 7, 8] rfl) (hD.sub [0, 1, 2, 3, 4, 5, 6, 7, 8] (by decide) rfl) hS (lv_sub hl [3, 4, 5, 6, 7, 8, 9, 0] rfl)
              · refine lv_goto (tgt := 240) hx hb dX12_tries_180 (by decide) ?_
                refine lv_iinc (v := (nI (k + 1))) (lv' := [(8, .int (nI (k + 1))), (10, .int x_21), (9, .int x_18), (0, .ref h0), (1, .int (nI cr)), (2, .int (nI po)), (3, .int da), (4, .int (nI se_)), (5, .int (nI ro)), (6, .int co_)]) hx hb dX12_tries_240 hl (k := 9) rfl (show nI k + 1 = nI (k + 1) from nI_1 k) (by decide) rfl (fun ls hl => ?_)
                refine lv_goto (tgt := 78) hx hb dX12_tries_243 (by decide) ?_
                exact ih (k + 1) a_least a_order _ _ _ (by omega) (by omega) hI_order (hP.sub [0, 1, 2, 3, 4, 5, 6, 7, 8] rfl) (hD.sub [0, 1, 2, 3, 4, 5, 6, 7, 8] (by decide) rfl) hS (lv_sub hl [3, 4, 5, 6, 7, 8, 9, 0] rfl)
            · refine lv_iload hx hb dX12_tries_154 (lv_at hl 0 rfl) ?_
              refine lv_goto (tgt := 166) hx hb dX12_tries_156 (by decide) ?_
              refine lv_istore (lv' := [(10, .int x_18), (9, .int x_18), (0, .ref h0), (1, .int (nI cr)), (2, .int (nI po)), (3, .int da), (4, .int (nI se_)), (5, .int (nI ro)), (6, .int co_), (8, .int (nI k))]) hx hb dX12_tries_166 hl (by decide) rfl (fun ls hl => ?_)
              refine lv_iload hx hb dX12_tries_168 (lv_at hl 0 rfl) ?_
              refine lv_aload_n hx hb dX12_tries_170 rfl (lv_at hl 2 rfl) ?_
              refine va_get (D := E.1) (ci := 12) (v := .ref (q 46)) (C := RX12) (T := TX12) (N := 59) hx hb hts inX12 hown hK hP 0 rfl rfl 46 (by decide) fl118 (fun _ h9 => h9) rfl dX12_tries_171 ?_
              refine lv_iload hx hb dX12_tries_174 (lv_at hl 9 rfl) ?_
              refine va_iald hx hb hK hP 8 0 rfl rfl hi_6 dX12_tries_176 ?_
              refine lv_topi (fun x_47 ex_47 => ?_)
              refine lv_icmp_le (tgt := 183) hx hb dX12_tries_177 (by decide) (fun c_48 => ?_) (fun c_48 => ?_)
              · refine lv_aload_n hx hb dX12_tries_183 rfl (lv_at hl 2 rfl) ?_
                refine lv_iload_n hx hb dX12_tries_184 rfl (lv_at hl 3 rfl) ?_
                refine lv_aload_n hx hb dX12_tries_185 rfl (lv_at hl 2 rfl) ?_
                refine va_get (D := E.1) (ci := 12) (v := .ref (q 43)) (C := RX12) (T := TX12) (N := 59) hx hb hts inX12 hown hK hP 0 rfl rfl 43 (by decide) fl109 (fun _ h9 => h9) rfl dX12_tries_186 ?_
                refine lv_iload hx hb dX12_tries_189 (lv_at hl 9 rfl) ?_
                refine va_iald hx hb hK hP 5 0 rfl rfl hi_6 dX12_tries_191 ?_
                refine lv_topi (fun x_49 ex_49 => ?_)
                have hv_50 : inR x_49 0 9 = true := by rw [ex_49]; exact hI_dTo _ (vin_cl hi_6)
                obtain ⟨w_51, hw_52, ew_53⟩ := inR_nI (n := 9) (by decide) hv_50
                subst ew_53
                refine lv_iload hx hb dX12_tries_192 (lv_at hl 0 rfl) ?_
                refine lv_aload_n hx hb dX12_tries_194 rfl (lv_at hl 2 rfl) ?_
                refine va_get (D := E.1) (ci := 12) (v := .ref (q 44)) (C := RX12) (T := TX12) (N := 59) hx hb hts inX12 hown hK hP 0 rfl rfl 44 (by decide) fl112 (fun _ h9 => h9) rfl dX12_tries_195 ?_
                refine lv_iload hx hb dX12_tries_198 (lv_at hl 9 rfl) ?_
                refine va_iald hx hb hK hP 6 0 rfl rfl hi_6 dX12_tries_200 ?_
                refine lv_topi (fun x_54 ex_54 => ?_)
                refine lv_iadd hx hb dX12_tries_201 ?_
                refine lv_topi (fun x_55 ex_55 => ?_)
                refine lv_iload hx hb dX12_tries_202 (lv_at hl 6 rfl) ?_
                refine lv_iconst (v := 1) hx hb dX12_tries_204 (by decide) ?_
                refine lv_iload hx hb dX12_tries_205 (lv_at hl 9 rfl) ?_
                refine lv_ishl hx hb dX12_tries_207 ?_
                refine lv_topi (fun x_56 ex_56 => ?_)
                refine lv_ior hx hb dX12_tries_208 ?_
                refine lv_topi (fun x_57 ex_57 => ?_)
                obtain ⟨w_58, hw_59, hw_59b, hw_59e⟩ : ∃ w, w < 128 ∧ bc7 w = 1 + 1 ∧ x_57 = nI w := by rw [ex_57, ex_56]; exact tr_bit hse hlt hbc (by rw [ex_3, ex_2] at c_4; exact c_4)
                subst hw_59e
                refine lv_bipush (v := 8) hx hb dX12_tries_209 (by decide) ?_
                refine lv_iload hx hb dX12_tries_211 (lv_at hl 7 rfl) ?_
                refine lv_imul hx hb dX12_tries_213 ?_
                refine lv_topi (fun x_60 ex_60 => ?_)
                obtain rfl : x_60 = nI (8 * ro) := ex_60.trans (pk_mul 8 ro)
                refine lv_iload hx hb dX12_tries_214 (lv_at hl 9 rfl) ?_
                refine lv_iadd hx hb dX12_tries_216 ?_
                refine lv_topi (fun x_61 ex_61 => ?_)
                obtain rfl : x_61 = nI ((8 * ro) + k) := ex_61.trans (nI_add (8 * ro) k)
                refine lv_iload hx hb dX12_tries_217 (lv_at hl 8 rfl) ?_
                refine lv_aload_n hx hb dX12_tries_219 rfl (lv_at hl 2 rfl) ?_
                refine va_get (D := E.1) (ci := 12) (v := .ref (q 49)) (C := RX12) (T := TX12) (N := 59) hx hb hts inX12 hown hK hP 0 rfl rfl 49 (by decide) fl127 (fun _ h9 => h9) rfl dX12_tries_220 ?_
                refine lv_bipush (v := 10) hx hb dX12_tries_223 (by decide) ?_
                refine lv_iload_n hx hb dX12_tries_225 rfl (lv_at hl 4 rfl) ?_
                refine lv_imul hx hb dX12_tries_226 ?_
                refine lv_topi (fun x_62 ex_62 => ?_)
                obtain rfl : x_62 = nI (10 * po) := ex_62.trans (pk_mul 10 po)
                refine lv_aload_n hx hb dX12_tries_227 rfl (lv_at hl 2 rfl) ?_
                refine va_get (D := E.1) (ci := 12) (v := .ref (q 42)) (C := RX12) (T := TX12) (N := 59) hx hb hts inX12 hown hK hP 0 rfl rfl 42 (by decide) fl106 (fun _ h9 => h9) rfl dX12_tries_228 ?_
                refine lv_iload hx hb dX12_tries_231 (lv_at hl 9 rfl) ?_
                refine va_iald hx hb hK hP 4 0 rfl rfl hi_6 dX12_tries_233 ?_
                refine lv_topi (fun x_63 ex_63 => ?_)
                obtain rfl : x_63 = nI w_9 := ex_63.trans ex_7.symm
                refine lv_iadd hx hb dX12_tries_234 ?_
                refine lv_topi (fun x_64 ex_64 => ?_)
                obtain rfl : x_64 = nI ((10 * po) + w_9) := ex_64.trans (nI_add (10 * po) w_9)
                refine va_iald hx hb hK hP 3 0 rfl rfl hi_13 dX12_tries_235 ?_
                refine lv_topi (fun x_65 ex_65 => ?_)
                refine lv_iadd hx hb dX12_tries_236 ?_
                refine lv_topi (fun x_66 ex_66 => ?_)
                have hPc := hP.sub (ws' := [(h0, .inr (12, mG q i_taped i_size i_sort i_what i_at i_end i_worth i_faultKind i_faultPlace i_got i_worked (nI dl) i_isPlanned i_bestDone i_bestCost)), (q 51, .inl (E.2.1 0, 512, .inl a_least)), (q 52, .inl (E.2.1 0, 512, .inl a_order)), (q 49, .inl (E.2.1 0, 100, .inl a_flights)), (q 42, .inl (E.2.1 0, 7, .inl a_dFrom)), (q 43, .inl (E.2.1 0, 7, .inl a_dTo)), (q 44, .inl (E.2.1 0, 7, .inl a_dDays)), (q 45, .inl (E.2.1 0, 7, .inl a_dFirst)), (q 46, .inl (E.2.1 0, 7, .inl a_dLast))]) [0, 1, 2, 3, 4, 5, 6, 7, 8] rfl
                have hDc := hD.sub (ws' := [(h0, .inr (12, mG q i_taped i_size i_sort i_what i_at i_end i_worth i_faultKind i_faultPlace i_got i_worked (nI dl) i_isPlanned i_bestDone i_bestCost)), (q 51, .inl (E.2.1 0, 512, .inl a_least)), (q 52, .inl (E.2.1 0, 512, .inl a_order)), (q 49, .inl (E.2.1 0, 100, .inl a_flights)), (q 42, .inl (E.2.1 0, 7, .inl a_dFrom)), (q 43, .inl (E.2.1 0, 7, .inl a_dTo)), (q 44, .inl (E.2.1 0, 7, .inl a_dDays)), (q 45, .inl (E.2.1 0, 7, .inl a_dFirst)), (q 46, .inl (E.2.1 0, 7, .inl a_dLast))]) [0, 1, 2, 3, 4, 5, 6, 7, 8] (by decide) rfl
                have hFc := va_free (wc := [(h0, .inr (12, mG q i_taped i_size i_sort i_what i_at i_end i_worth i_faultKind i_faultPlace i_got i_worked (nI dl) i_isPlanned i_bestDone i_bestCost)), (q 51, .inl (E.2.1 0, 512, .inl a_least)), (q 52, .inl (E.2.1 0, 512, .inl a_order)), (q 49, .inl (E.2.1 0, 100, .inl a_flights)), (q 42, .inl (E.2.1 0, 7, .inl a_dFrom)), (q 43, .inl (E.2.1 0, 7, .inl a_dTo)), (q 44, .inl (E.2.1 0, 7, .inl a_dDays)), (q 45, .inl (E.2.1 0, 7, .inl a_dFirst)), (q 46, .inl (E.2.1 0, 7, .inl a_dLast))]) hD hS hA [0, 1, 2, 3, 4, 5, 6, 7, 8] rfl
                refine va_callv (va_runV (As := [.int (nI cr), .int (nI w_51), .int x_55, .int (nI w_58), .int (nI ((8 * ro) + k)), .int x_66]) (rest := []) ⟨hx, hb, hml, hown, hts⟩ (c_X12_tries2 l E h0 q i_taped i_size i_sort i_what i_at i_end i_worth i_faultKind i_faultPlace i_got i_worked i_isPlanned i_bestDone i_bestCost dl cr w_51 w_58 ((8 * ro) + k) a_least a_order a_flights a_dFrom a_dTo a_dDays a_dFirst a_dLast x_55 x_66 H.size hcr (by omega) hw_59 hdl hw_59b (dg_step hro hlt) hI_order hI_dFrom hI_dTo) (cwV 6 hts gX12_tries_X12_tries rfl rfl rfl hdV_X12_tries ⟨Nat.le_of_ble_eq_true rfl, Nat.le_of_ble_eq_true rfl⟩) ⟨pcW_blind, va_recv hK hPc (ci := 12) (q0 := 0) rfl rfl, (pcW_pre hPc hkn hDc hst hS hFc)⟩ rfl rfl hl.1 rfl (lv_room (Nat.le_of_ble_eq_true rfl)) dX12_tries_237 ⟨Nat.le_of_ble_eq_true rfl, Nat.le_of_ble_eq_true rfl⟩) hS (fun q _ h => hFc q h) hFc (fun u t H1 locs ht hvm hw_68 hB hz1 hk1 hS => ?_)
                obtain ⟨u_69, u_70⟩ := u
                obtain ⟨hf_71, hP1, hD1⟩ := hB
                rw [ht] at hP1
                try dsimp only at hw_68
                obtain ⟨hP, hD⟩ := va_join (wr := []) (w1 := [(h0, .inr (12, mG q i_taped i_size i_sort i_what i_at i_end i_worth i_faultKind i_faultPlace i_got i_worked (nI dl) i_isPlanned i_bestDone i_bestCost)), (q 51, .inl (E.2.1 0, 512, .inl u_69)), (q 52, .inl (E.2.1 0, 512, .inl u_70)), (q 49, .inl (E.2.1 0, 100, .inl a_flights)), (q 42, .inl (E.2.1 0, 7, .inl a_dFrom)), (q 43, .inl (E.2.1 0, 7, .inl a_dTo)), (q 44, .inl (E.2.1 0, 7, .inl a_dDays)), (q 45, .inl (E.2.1 0, 7, .inl a_dFirst)), (q 46, .inl (E.2.1 0, 7, .inl a_dLast))]) hP hD [0, 1, 2, 3, 4, 5, 6, 7, 8] [] rfl rfl (by decide) (by decide) hk1 hFc hP1 hD1
                generalize H1 = H at hP hS ⊢
                have hP : va_P E.1 vwCl [(h0, .inr (12, mG q i_taped i_size i_sort i_what i_at i_end i_worth i_faultKind i_faultPlace i_got i_worked (nI dl) i_isPlanned i_bestDone i_bestCost)), (q 51, .inl (E.2.1 0, 512, .inl u_69)), (q 52, .inl (E.2.1 0, 512, .inl u_70)), (q 49, .inl (E.2.1 0, 100, .inl a_flights)), (q 42, .inl (E.2.1 0, 7, .inl a_dFrom)), (q 43, .inl (E.2.1 0, 7, .inl a_dTo)), (q 44, .inl (E.2.1 0, 7, .inl a_dDays)), (q 45, .inl (E.2.1 0, 7, .inl a_dFirst)), (q 46, .inl (E.2.1 0, 7, .inl a_dLast))] H := hP
                have hD : va_D A [(h0, .inr (12, mG q i_taped i_size i_sort i_what i_at i_end i_worth i_faultKind i_faultPlace i_got i_worked (nI dl) i_isPlanned i_bestDone i_bestCost)), (q 51, .inl (E.2.1 0, 512, .inl u_69)), (q 52, .inl (E.2.1 0, 512, .inl u_70)), (q 49, .inl (E.2.1 0, 100, .inl a_flights)), (q 42, .inl (E.2.1 0, 7, .inl a_dFrom)), (q 43, .inl (E.2.1 0, 7, .inl a_dTo)), (q 44, .inl (E.2.1 0, 7, .inl a_dDays)), (q 45, .inl (E.2.1 0, 7, .inl a_dFirst)), (q 46, .inl (E.2.1 0, 7, .inl a_dLast))] := hD
                refine lv_iinc (v := (nI (k + 1))) (lv' := [(8, .int (nI (k + 1))), (10, .int x_18), (9, .int x_18), (0, .ref h0), (1, .int (nI cr)), (2, .int (nI po)), (3, .int da), (4, .int (nI se_)), (5, .int (nI ro)), (6, .int co_)]) hx hb dX12_tries_240 hl (k := 9) rfl (show nI k + 1 = nI (k + 1) from nI_1 k) (by decide) rfl (fun ls hl => ?_)
                refine lv_goto (tgt := 78) hx hb dX12_tries_243 (by decide) ?_
                exact ih (k + 1) u_69 u_70 _ _ _ (by omega) (by omega) hf_71 (hP.sub [0, 1, 2, 3, 4, 5, 6, 7, 8] rfl) (hD.sub [0, 1, 2, 3, 4, 5, 6, 7, 8] (by decide) rfl) hS (lv_sub hl [3, 4, 5, 6, 7, 8, 9, 0] rfl)
              · refine lv_goto (tgt := 240) hx hb dX12_tries_180 (by decide) ?_
                refine lv_iinc (v := (nI (k + 1))) (lv' := [(8, .int (nI (k + 1))), (10, .int x_18), (9, .int x_18), (0, .ref h0), (1, .int (nI cr)), (2, .int (nI po)), (3, .int da), (4, .int (nI se_)), (5, .int (nI ro)), (6, .int co_)]) hx hb dX12_tries_240 hl (k := 9) rfl (show nI k + 1 = nI (k + 1) from nI_1 k) (by decide) rfl (fun ls hl => ?_)
                refine lv_goto (tgt := 78) hx hb dX12_tries_243 (by decide) ?_
                exact ih (k + 1) a_least a_order _ _ _ (by omega) (by omega) hI_order (hP.sub [0, 1, 2, 3, 4, 5, 6, 7, 8] rfl) (hD.sub [0, 1, 2, 3, 4, 5, 6, 7, 8] (by decide) rfl) hS (lv_sub hl [3, 4, 5, 6, 7, 8, 9, 0] rfl)
          · refine lv_iconst (v := 0) hx hb dX12_tries_134 (by decide) ?_
            refine lv_goto (tgt := 139) hx hb dX12_tries_135 (by decide) ?_
            refine lv_iadd hx hb dX12_tries_139 ?_
            refine lv_topi (fun x_72 ex_72 => ?_)
            refine lv_istore (lv' := [(9, .int x_72), (0, .ref h0), (1, .int (nI cr)), (2, .int (nI po)), (3, .int da), (4, .int (nI se_)), (5, .int (nI ro)), (6, .int co_), (8, .int (nI k))]) hx hb dX12_tries_140 hl (by decide) rfl (fun ls hl => ?_)
            refine lv_iload hx hb dX12_tries_142 (lv_at hl 0 rfl) ?_
            refine lv_aload_n hx hb dX12_tries_144 rfl (lv_at hl 1 rfl) ?_
            refine va_get (D := E.1) (ci := 12) (v := .ref (q 45)) (C := RX12) (T := TX12) (N := 59) hx hb hts inX12 hown hK hP 0 rfl rfl 45 (by decide) fl115 (fun _ h9 => h9) rfl dX12_tries_145 ?_
            refine lv_iload hx hb dX12_tries_148 (lv_at hl 8 rfl) ?_
            refine va_iald hx hb hK hP 7 0 rfl rfl hi_6 dX12_tries_150 ?_
            refine lv_topi (fun x_73 ex_73 => ?_)
            refine lv_icmp_le (tgt := 159) hx hb dX12_tries_151 (by decide) (fun c_74 => ?_) (fun c_74 => ?_)
            · refine lv_aload_n hx hb dX12_tries_159 rfl (lv_at hl 1 rfl) ?_
              refine va_get (D := E.1) (ci := 12) (v := .ref (q 45)) (C := RX12) (T := TX12) (N := 59) hx hb hts inX12 hown hK hP 0 rfl rfl 45 (by decide) fl115 (fun _ h9 => h9) rfl dX12_tries_160 ?_
              refine lv_iload hx hb dX12_tries_163 (lv_at hl 8 rfl) ?_
              refine va_iald hx hb hK hP 7 0 rfl rfl hi_6 dX12_tries_165 ?_
              refine lv_topi (fun x_75 ex_75 => ?_)
              refine lv_istore (lv' := [(10, .int x_75), (9, .int x_72), (0, .ref h0), (1, .int (nI cr)), (2, .int (nI po)), (3, .int da), (4, .int (nI se_)), (5, .int (nI ro)), (6, .int co_), (8, .int (nI k))]) hx hb dX12_tries_166 hl (by decide) rfl (fun ls hl => ?_)
              refine lv_iload hx hb dX12_tries_168 (lv_at hl 0 rfl) ?_
              refine lv_aload_n hx hb dX12_tries_170 rfl (lv_at hl 2 rfl) ?_
              refine va_get (D := E.1) (ci := 12) (v := .ref (q 46)) (C := RX12) (T := TX12) (N := 59) hx hb hts inX12 hown hK hP 0 rfl rfl 46 (by decide) fl118 (fun _ h9 => h9) rfl dX12_tries_171 ?_
              refine lv_iload hx hb dX12_tries_174 (lv_at hl 9 rfl) ?_
              refine va_iald hx hb hK hP 8 0 rfl rfl hi_6 dX12_tries_176 ?_
              refine lv_topi (fun x_76 ex_76 => ?_)
              refine lv_icmp_le (tgt := 183) hx hb dX12_tries_177 (by decide) (fun c_77 => ?_) (fun c_77 => ?_)
              · refine lv_aload_n hx hb dX12_tries_183 rfl (lv_at hl 2 rfl) ?_
                refine lv_iload_n hx hb dX12_tries_184 rfl (lv_at hl 3 rfl) ?_
                refine lv_aload_n hx hb dX12_tries_185 rfl (lv_at hl 2 rfl) ?_
                refine va_get (D := E.1) (ci := 12) (v := .ref (q 43)) (C := RX12) (T := TX12) (N := 59) hx hb hts inX12 hown hK hP 0 rfl rfl 43 (by decide) fl109 (fun _ h9 => h9) rfl dX12_tries_186 ?_
                refine lv_iload hx hb dX12_tries_189 (lv_at hl 9 rfl) ?_
                refine va_iald hx hb hK hP 5 0 rfl rfl hi_6 dX12_tries_191 ?_
                refine lv_topi (fun x_78 ex_78 => ?_)
                have hv_79 : inR x_78 0 9 = true := by rw [ex_78]; exact hI_dTo _ (vin_cl hi_6)
                obtain ⟨w_80, hw_81, ew_82⟩ := inR_nI (n := 9) (by decide) hv_79
                subst ew_82
                refine lv_iload hx hb dX12_tries_192 (lv_at hl 0 rfl) ?_
                refine lv_aload_n hx hb dX12_tries_194 rfl (lv_at hl 2 rfl) ?_
                refine va_get (D := E.1) (ci := 12) (v := .ref (q 44)) (C := RX12) (T := TX12) (N := 59) hx hb hts inX12 hown hK hP 0 rfl rfl 44 (by decide) fl112 (fun _ h9 => h9) rfl dX12_tries_195 ?_
                refine lv_iload hx hb dX12_tries_198 (lv_at hl 9 rfl) ?_
                refine va_iald hx hb hK hP 6 0 rfl rfl hi_6 dX12_tries_200 ?_
                refine lv_topi (fun x_83 ex_83 => ?_)
                refine lv_iadd hx hb dX12_tries_201 ?_
                refine lv_topi (fun x_84 ex_84 => ?_)
                refine lv_iload hx hb dX12_tries_202 (lv_at hl 6 rfl) ?_
                refine lv_iconst (v := 1) hx hb dX12_tries_204 (by decide) ?_
                refine lv_iload hx hb dX12_tries_205 (lv_at hl 9 rfl) ?_
                refine lv_ishl hx hb dX12_tries_207 ?_
                refine lv_topi (fun x_85 ex_85 => ?_)
                refine lv_ior hx hb dX12_tries_208 ?_
                refine lv_topi (fun x_86 ex_86 => ?_)
                obtain ⟨w_87, hw_88, hw_88b, hw_88e⟩ : ∃ w, w < 128 ∧ bc7 w = 1 + 1 ∧ x_86 = nI w := by rw [ex_86, ex_85]; exact tr_bit hse hlt hbc (by rw [ex_3, ex_2] at c_4; exact c_4)
                subst hw_88e
                refine lv_bipush (v := 8) hx hb dX12_tries_209 (by decide) ?_
                refine lv_iload hx hb dX12_tries_211 (lv_at hl 7 rfl) ?_
                refine lv_imul hx hb dX12_tries_213 ?_
                refine lv_topi (fun x_89 ex_89 => ?_)
                obtain rfl : x_89 = nI (8 * ro) := ex_89.trans (pk_mul 8 ro)
                refine lv_iload hx hb dX12_tries_214 (lv_at hl 9 rfl) ?_
                refine lv_iadd hx hb dX12_tries_216 ?_
                refine lv_topi (fun x_90 ex_90 => ?_)
                obtain rfl : x_90 = nI ((8 * ro) + k) := ex_90.trans (nI_add (8 * ro) k)
                refine lv_iload hx hb dX12_tries_217 (lv_at hl 8 rfl) ?_
                refine lv_aload_n hx hb dX12_tries_219 rfl (lv_at hl 2 rfl) ?_
                refine va_get (D := E.1) (ci := 12) (v := .ref (q 49)) (C := RX12) (T := TX12) (N := 59) hx hb hts inX12 hown hK hP 0 rfl rfl 49 (by decide) fl127 (fun _ h9 => h9) rfl dX12_tries_220 ?_
                refine lv_bipush (v := 10) hx hb dX12_tries_223 (by decide) ?_
                refine lv_iload_n hx hb dX12_tries_225 rfl (lv_at hl 4 rfl) ?_
                refine lv_imul hx hb dX12_tries_226 ?_
                refine lv_topi (fun x_91 ex_91 => ?_)
                obtain rfl : x_91 = nI (10 * po) := ex_91.trans (pk_mul 10 po)
                refine lv_aload_n hx hb dX12_tries_227 rfl (lv_at hl 2 rfl) ?_
                refine va_get (D := E.1) (ci := 12) (v := .ref (q 42)) (C := RX12) (T := TX12) (N := 59) hx hb hts inX12 hown hK hP 0 rfl rfl 42 (by decide) fl106 (fun _ h9 => h9) rfl dX12_tries_228 ?_
                refine lv_iload hx hb dX12_tries_231 (lv_at hl 9 rfl) ?_
                refine va_iald hx hb hK hP 4 0 rfl rfl hi_6 dX12_tries_233 ?_
                refine lv_topi (fun x_92 ex_92 => ?_)
                obtain rfl : x_92 = nI w_9 := ex_92.trans ex_7.symm
                refine lv_iadd hx hb dX12_tries_234 ?_
                refine lv_topi (fun x_93 ex_93 => ?_)
                obtain rfl : x_93 = nI ((10 * po) + w_9) := ex_93.trans (nI_add (10 * po) w_9)
                refine va_iald hx hb hK hP 3 0 rfl rfl hi_13 dX12_tries_235 ?_
                refine lv_topi (fun x_94 ex_94 => ?_)
                refine lv_iadd hx hb dX12_tries_236 ?_
                refine lv_topi (fun x_95 ex_95 => ?_)
                have hPc := hP.sub (ws' := [(h0, .inr (12, mG q i_taped i_size i_sort i_what i_at i_end i_worth i_faultKind i_faultPlace i_got i_worked (nI dl) i_isPlanned i_bestDone i_bestCost)), (q 51, .inl (E.2.1 0, 512, .inl a_least)), (q 52, .inl (E.2.1 0, 512, .inl a_order)), (q 49, .inl (E.2.1 0, 100, .inl a_flights)), (q 42, .inl (E.2.1 0, 7, .inl a_dFrom)), (q 43, .inl (E.2.1 0, 7, .inl a_dTo)), (q 44, .inl (E.2.1 0, 7, .inl a_dDays)), (q 45, .inl (E.2.1 0, 7, .inl a_dFirst)), (q 46, .inl (E.2.1 0, 7, .inl a_dLast))]) [0, 1, 2, 3, 4, 5, 6, 7, 8] rfl
                have hDc := hD.sub (ws' := [(h0, .inr (12, mG q i_taped i_size i_sort i_what i_at i_end i_worth i_faultKind i_faultPlace i_got i_worked (nI dl) i_isPlanned i_bestDone i_bestCost)), (q 51, .inl (E.2.1 0, 512, .inl a_least)), (q 52, .inl (E.2.1 0, 512, .inl a_order)), (q 49, .inl (E.2.1 0, 100, .inl a_flights)), (q 42, .inl (E.2.1 0, 7, .inl a_dFrom)), (q 43, .inl (E.2.1 0, 7, .inl a_dTo)), (q 44, .inl (E.2.1 0, 7, .inl a_dDays)), (q 45, .inl (E.2.1 0, 7, .inl a_dFirst)), (q 46, .inl (E.2.1 0, 7, .inl a_dLast))]) [0, 1, 2, 3, 4, 5, 6, 7, 8] (by decide) rfl
                have hFc := va_free (wc := [(h0, .inr (12, mG q i_taped i_size i_sort i_what i_at i_end i_worth i_faultKind i_faultPlace i_got i_worked (nI dl) i_isPlanned i_bestDone i_bestCost)), (q 51, .inl (E.2.1 0, 512, .inl a_least)), (q 52, .inl (E.2.1 0, 512, .inl a_order)), (q 49, .inl (E.2.1 0, 100, .inl a_flights)), (q 42, .inl (E.2.1 0, 7, .inl a_dFrom)), (q 43, .inl (E.2.1 0, 7, .inl a_dTo)), (q 44, .inl (E.2.1 0, 7, .inl a_dDays)), (q 45, .inl (E.2.1 0, 7, .inl a_dFirst)), (q 46, .inl (E.2.1 0, 7, .inl a_dLast))]) hD hS hA [0, 1, 2, 3, 4, 5, 6, 7, 8] rfl
                refine va_callv (va_runV (As := [.int (nI cr), .int (nI w_80), .int x_84, .int (nI w_87), .int (nI ((8 * ro) + k)), .int x_95]) (rest := []) ⟨hx, hb, hml, hown, hts⟩ (c_X12_tries2 l E h0 q i_taped i_size i_sort i_what i_at i_end i_worth i_faultKind i_faultPlace i_got i_worked i_isPlanned i_bestDone i_bestCost dl cr w_80 w_87 ((8 * ro) + k) a_least a_order a_flights a_dFrom a_dTo a_dDays a_dFirst a_dLast x_84 x_95 H.size hcr (by omega) hw_88 hdl hw_88b (dg_step hro hlt) hI_order hI_dFrom hI_dTo) (cwV 6 hts gX12_tries_X12_tries rfl rfl rfl hdV_X12_tries ⟨Nat.le_of_ble_eq_true rfl, Nat.le_of_ble_eq_true rfl⟩) ⟨pcW_blind, va_recv hK hPc (ci := 12) (q0 := 0) rfl rfl, (pcW_pre hPc hkn hDc hst hS hFc)⟩ rfl rfl hl.1 rfl (lv_room (Nat.le_of_ble_eq_true rfl)) dX12_tries_237 ⟨Nat.le_of_ble_eq_true rfl, Nat.le_of_ble_eq_true rfl⟩) hS (fun q _ h => hFc q h) hFc (fun u t H1 locs ht hvm hw_97 hB hz1 hk1 hS => ?_)
                obtain ⟨u_98, u_99⟩ := u
                obtain ⟨hf_100, hP1, hD1⟩ := hB
                rw [ht] at hP1
                try dsimp only at hw_97
                obtain ⟨hP, hD⟩ := va_join (wr := []) (w1 := [(h0, .inr (12, mG q i_taped i_size i_sort i_what i_at i_end i_worth i_faultKind i_faultPlace i_got i_worked (nI dl) i_isPlanned i_bestDone i_bestCost)), (q 51, .inl (E.2.1 0, 512, .inl u_98)), (q 52, .inl (E.2.1 0, 512, .inl u_99)), (q 49, .inl (E.2.1 0, 100, .inl a_flights)), (q 42, .inl (E.2.1 0, 7, .inl a_dFrom)), (q 43, .inl (E.2.1 0, 7, .inl a_dTo)), (q 44, .inl (E.2.1 0, 7, .inl a_dDays)), (q 45, .inl (E.2.1 0, 7, .inl a_dFirst)), (q 46, .inl (E.2.1 0, 7, .inl a_dLast))]) hP hD [0, 1, 2, 3, 4, 5, 6, 7, 8] [] rfl rfl (by decide) (by decide) hk1 hFc hP1 hD1
                generalize H1 = H at hP hS ⊢
                have hP : va_P E.1 vwCl [(h0, .inr (12, mG q i_taped i_size i_sort i_what i_at i_end i_worth i_faultKind i_faultPlace i_got i_worked (nI dl) i_isPlanned i_bestDone i_bestCost)), (q 51, .inl (E.2.1 0, 512, .inl u_98)), (q 52, .inl (E.2.1 0, 512, .inl u_99)), (q 49, .inl (E.2.1 0, 100, .inl a_flights)), (q 42, .inl (E.2.1 0, 7, .inl a_dFrom)), (q 43, .inl (E.2.1 0, 7, .inl a_dTo)), (q 44, .inl (E.2.1 0, 7, .inl a_dDays)), (q 45, .inl (E.2.1 0, 7, .inl a_dFirst)), (q 46, .inl (E.2.1 0, 7, .inl a_dLast))] H := hP
                have hD : va_D A [(h0, .inr (12, mG q i_taped i_size i_sort i_what i_at i_end i_worth i_faultKind i_faultPlace i_got i_worked (nI dl) i_isPlanned i_bestDone i_bestCost)), (q 51, .inl (E.2.1 0, 512, .inl u_98)), (q 52, .inl (E.2.1 0, 512, .inl u_99)), (q 49, .inl (E.2.1 0, 100, .inl a_flights)), (q 42, .inl (E.2.1 0, 7, .inl a_dFrom)), (q 43, .inl (E.2.1 0, 7, .inl a_dTo)), (q 44, .inl (E.2.1 0, 7, .inl a_dDays)), (q 45, .inl (E.2.1 0, 7, .inl a_dFirst)), (q 46, .inl (E.2.1 0, 7, .inl a_dLast))] := hD
                refine lv_iinc (v := (nI (k + 1))) (lv' := [(8, .int (nI (k + 1))), (10, .int x_75), (9, .int x_72), (0, .ref h0), (1, .int (nI cr)), (2, .int (nI po)), (3, .int da), (4, .int (nI se_)), (5, .int (nI ro)), (6, .int co_)]) hx hb dX12_tries_240 hl (k := 9) rfl (show nI k + 1 = nI (k + 1) from nI_1 k) (by decide) rfl (fun ls hl => ?_)
                refine lv_goto (tgt := 78) hx hb dX12_tries_243 (by decide) ?_
                exact ih (k + 1) u_98 u_99 _ _ _ (by omega) (by omega) hf_100 (hP.sub [0, 1, 2, 3, 4, 5, 6, 7, 8] rfl) (hD.sub [0, 1, 2, 3, 4, 5, 6, 7, 8] (by decide) rfl) hS (lv_sub hl [3, 4, 5, 6, 7, 8, 9, 0] rfl)
              · refine lv_goto (tgt := 240) hx hb dX12_tries_180 (by decide) ?_
                refine lv_iinc (v := (nI (k + 1))) (lv' := [(8, .int (nI (k + 1))), (10, .int x_75), (9, .int x_72), (0, .ref h0), (1, .int (nI cr)), (2, .int (nI po)), (3, .int da), (4, .int (nI se_)), (5, .int (nI ro)), (6, .int co_)]) hx hb dX12_tries_240 hl (k := 9) rfl (show nI k + 1 = nI (k + 1) from nI_1 k) (by decide) rfl (fun ls hl => ?_)
                refine lv_goto (tgt := 78) hx hb dX12_tries_243 (by decide) ?_
                exact ih (k + 1) a_least a_order _ _ _ (by omega) (by omega) hI_order (hP.sub [0, 1, 2, 3, 4, 5, 6, 7, 8] rfl) (hD.sub [0, 1, 2, 3, 4, 5, 6, 7, 8] (by decide) rfl) hS (lv_sub hl [3, 4, 5, 6, 7, 8, 9, 0] rfl)
            · refine lv_iload hx hb dX12_tries_154 (lv_at hl 0 rfl) ?_
              refine lv_goto (tgt := 166) hx hb dX12_tries_156 (by decide) ?_
              refine lv_istore (lv' := [(10, .int x_72), (9, .int x_72), (0, .ref h0), (1, .int (nI cr)), (2, .int (nI po)), (3, .int da), (4, .int (nI se_)), (5, .int (nI ro)), (6, .int co_), (8, .int (nI k))]) hx hb dX12_tries_166 hl (by decide) rfl (fun ls hl => ?_)
              refine lv_iload hx hb dX12_tries_168 (lv_at hl 0 rfl) ?_
              refine lv_aload_n hx hb dX12_tries_170 rfl (lv_at hl 2 rfl) ?_
              refine va_get (D := E.1) (ci := 12) (v := .ref (q 46)) (C := RX12) (T := TX12) (N := 59) hx hb hts inX12 hown hK hP 0 rfl rfl 46 (by decide) fl118 (fun _ h9 => h9) rfl dX12_tries_171 ?_
              refine lv_iload hx hb dX12_tries_174 (lv_at hl 9 rfl) ?_
              refine va_iald hx hb hK hP 8 0 rfl rfl hi_6 dX12_tries_176 ?_
              refine lv_topi (fun x_101 ex_101 => ?_)
              refine lv_icmp_le (tgt := 183) hx hb dX12_tries_177 (by decide) (fun c_102 => ?_) (fun c_102 => ?_)
              · refine lv_aload_n hx hb dX12_tries_183 rfl (lv_at hl 2 rfl) ?_
                refine lv_iload_n hx hb dX12_tries_184 rfl (lv_at hl 3 rfl) ?_
                refine lv_aload_n hx hb dX12_tries_185 rfl (lv_at hl 2 rfl) ?_
                refine va_get (D := E.1) (ci := 12) (v := .ref (q 43)) (C := RX12) (T := TX12) (N := 59) hx hb hts inX12 hown hK hP 0 rfl rfl 43 (by decide) fl109 (fun _ h9 => h9) rfl dX12_tries_186 ?_
                refine lv_iload hx hb dX12_tries_189 (lv_at hl 9 rfl) ?_
                refine va_iald hx hb hK hP 5 0 rfl rfl hi_6 dX12_tries_191 ?_
                refine lv_topi (fun x_103 ex_103 => ?_)
                have hv_104 : inR x_103 0 9 = true := by rw [ex_103]; exact hI_dTo _ (vin_cl hi_6)
                obtain ⟨w_105, hw_106, ew_107⟩ := inR_nI (n := 9) (by decide) hv_104
                subst ew_107
                refine lv_iload hx hb dX12_tries_192 (lv_at hl 0 rfl) ?_
                refine lv_aload_n hx hb dX12_tries_194 rfl (lv_at hl 2 rfl) ?_
                refine va_get (D := E.1) (ci := 12) (v := .ref (q 44)) (C := RX12) (T := TX12) (N := 59) hx hb hts inX12 hown hK hP 0 rfl rfl 44 (by decide) fl112 (fun _ h9 => h9) rfl dX12_tries_195 ?_
                refine lv_iload hx hb dX12_tries_198 (lv_at hl 9 rfl) ?_
                refine va_iald hx hb hK hP 6 0 rfl rfl hi_6 dX12_tries_200 ?_
                refine lv_topi (fun x_108 ex_108 => ?_)
                refine lv_iadd hx hb dX12_tries_201 ?_
                refine lv_topi (fun x_109 ex_109 => ?_)
                refine lv_iload hx hb dX12_tries_202 (lv_at hl 6 rfl) ?_
                refine lv_iconst (v := 1) hx hb dX12_tries_204 (by decide) ?_
                refine lv_iload hx hb dX12_tries_205 (lv_at hl 9 rfl) ?_
                refine lv_ishl hx hb dX12_tries_207 ?_
                refine lv_topi (fun x_110 ex_110 => ?_)
                refine lv_ior hx hb dX12_tries_208 ?_
                refine lv_topi (fun x_111 ex_111 => ?_)
                obtain ⟨w_112, hw_113, hw_113b, hw_113e⟩ : ∃ w, w < 128 ∧ bc7 w = 1 + 1 ∧ x_111 = nI w := by rw [ex_111, ex_110]; exact tr_bit hse hlt hbc (by rw [ex_3, ex_2] at c_4; exact c_4)
                subst hw_113e
                refine lv_bipush (v := 8) hx hb dX12_tries_209 (by decide) ?_
                refine lv_iload hx hb dX12_tries_211 (lv_at hl 7 rfl) ?_
                refine lv_imul hx hb dX12_tries_213 ?_
                refine lv_topi (fun x_114 ex_114 => ?_)
                obtain rfl : x_114 = nI (8 * ro) := ex_114.trans (pk_mul 8 ro)
                refine lv_iload hx hb dX12_tries_214 (lv_at hl 9 rfl) ?_
                refine lv_iadd hx hb dX12_tries_216 ?_
                refine lv_topi (fun x_115 ex_115 => ?_)
                obtain rfl : x_115 = nI ((8 * ro) + k) := ex_115.trans (nI_add (8 * ro) k)
                refine lv_iload hx hb dX12_tries_217 (lv_at hl 8 rfl) ?_
                refine lv_aload_n hx hb dX12_tries_219 rfl (lv_at hl 2 rfl) ?_
                refine va_get (D := E.1) (ci := 12) (v := .ref (q 49)) (C := RX12) (T := TX12) (N := 59) hx hb hts inX12 hown hK hP 0 rfl rfl 49 (by decide) fl127 (fun _ h9 => h9) rfl dX12_tries_220 ?_
                refine lv_bipush (v := 10) hx hb dX12_tries_223 (by decide) ?_
                refine lv_iload_n hx hb dX12_tries_225 rfl (lv_at hl 4 rfl) ?_
                refine lv_imul hx hb dX12_tries_226 ?_
                refine lv_topi (fun x_116 ex_116 => ?_)
                obtain rfl : x_116 = nI (10 * po) := ex_116.trans (pk_mul 10 po)
                refine lv_aload_n hx hb dX12_tries_227 rfl (lv_at hl 2 rfl) ?_
                refine va_get (D := E.1) (ci := 12) (v := .ref (q 42)) (C := RX12) (T := TX12) (N := 59) hx hb hts inX12 hown hK hP 0 rfl rfl 42 (by decide) fl106 (fun _ h9 => h9) rfl dX12_tries_228 ?_
                refine lv_iload hx hb dX12_tries_231 (lv_at hl 9 rfl) ?_
                refine va_iald hx hb hK hP 4 0 rfl rfl hi_6 dX12_tries_233 ?_
                refine lv_topi (fun x_117 ex_117 => ?_)
                obtain rfl : x_117 = nI w_9 := ex_117.trans ex_7.symm
                refine lv_iadd hx hb dX12_tries_234 ?_
                refine lv_topi (fun x_118 ex_118 => ?_)
                obtain rfl : x_118 = nI ((10 * po) + w_9) := ex_118.trans (nI_add (10 * po) w_9)
                refine va_iald hx hb hK hP 3 0 rfl rfl hi_13 dX12_tries_235 ?_
                refine lv_topi (fun x_119 ex_119 => ?_)
                refine lv_iadd hx hb dX12_tries_236 ?_
                refine lv_topi (fun x_120 ex_120 => ?_)
                have hPc := hP.sub (ws' := [(h0, .inr (12, mG q i_taped i_size i_sort i_what i_at i_end i_worth i_faultKind i_faultPlace i_got i_worked (nI dl) i_isPlanned i_bestDone i_bestCost)), (q 51, .inl (E.2.1 0, 512, .inl a_least)), (q 52, .inl (E.2.1 0, 512, .inl a_order)), (q 49, .inl (E.2.1 0, 100, .inl a_flights)), (q 42, .inl (E.2.1 0, 7, .inl a_dFrom)), (q 43, .inl (E.2.1 0, 7, .inl a_dTo)), (q 44, .inl (E.2.1 0, 7, .inl a_dDays)), (q 45, .inl (E.2.1 0, 7, .inl a_dFirst)), (q 46, .inl (E.2.1 0, 7, .inl a_dLast))]) [0, 1, 2, 3, 4, 5, 6, 7, 8] rfl
                have hDc := hD.sub (ws' := [(h0, .inr (12, mG q i_taped i_size i_sort i_what i_at i_end i_worth i_faultKind i_faultPlace i_got i_worked (nI dl) i_isPlanned i_bestDone i_bestCost)), (q 51, .inl (E.2.1 0, 512, .inl a_least)), (q 52, .inl (E.2.1 0, 512, .inl a_order)), (q 49, .inl (E.2.1 0, 100, .inl a_flights)), (q 42, .inl (E.2.1 0, 7, .inl a_dFrom)), (q 43, .inl (E.2.1 0, 7, .inl a_dTo)), (q 44, .inl (E.2.1 0, 7, .inl a_dDays)), (q 45, .inl (E.2.1 0, 7, .inl a_dFirst)), (q 46, .inl (E.2.1 0, 7, .inl a_dLast))]) [0, 1, 2, 3, 4, 5, 6, 7, 8] (by decide) rfl
                have hFc := va_free (wc := [(h0, .inr (12, mG q i_taped i_size i_sort i_what i_at i_end i_worth i_faultKind i_faultPlace i_got i_worked (nI dl) i_isPlanned i_bestDone i_bestCost)), (q 51, .inl (E.2.1 0, 512, .inl a_least)), (q 52, .inl (E.2.1 0, 512, .inl a_order)), (q 49, .inl (E.2.1 0, 100, .inl a_flights)), (q 42, .inl (E.2.1 0, 7, .inl a_dFrom)), (q 43, .inl (E.2.1 0, 7, .inl a_dTo)), (q 44, .inl (E.2.1 0, 7, .inl a_dDays)), (q 45, .inl (E.2.1 0, 7, .inl a_dFirst)), (q 46, .inl (E.2.1 0, 7, .inl a_dLast))]) hD hS hA [0, 1, 2, 3, 4, 5, 6, 7, 8] rfl
                refine va_callv (va_runV (As := [.int (nI cr), .int (nI w_105), .int x_109, .int (nI w_112), .int (nI ((8 * ro) + k)), .int x_120]) (rest := []) ⟨hx, hb, hml, hown, hts⟩ (c_X12_tries2 l E h0 q i_taped i_size i_sort i_what i_at i_end i_worth i_faultKind i_faultPlace i_got i_worked i_isPlanned i_bestDone i_bestCost dl cr w_105 w_112 ((8 * ro) + k) a_least a_order a_flights a_dFrom a_dTo a_dDays a_dFirst a_dLast x_109 x_120 H.size hcr (by omega) hw_113 hdl hw_113b (dg_step hro hlt) hI_order hI_dFrom hI_dTo) (cwV 6 hts gX12_tries_X12_tries rfl rfl rfl hdV_X12_tries ⟨Nat.le_of_ble_eq_true rfl, Nat.le_of_ble_eq_true rfl⟩) ⟨pcW_blind, va_recv hK hPc (ci := 12) (q0 := 0) rfl rfl, (pcW_pre hPc hkn hDc hst hS hFc)⟩ rfl rfl hl.1 rfl (lv_room (Nat.le_of_ble_eq_true rfl)) dX12_tries_237 ⟨Nat.le_of_ble_eq_true rfl, Nat.le_of_ble_eq_true rfl⟩) hS (fun q _ h => hFc q h) hFc (fun u t H1 locs ht hvm hw_122 hB hz1 hk1 hS => ?_)
                obtain ⟨u_123, u_124⟩ := u
                obtain ⟨hf_125, hP1, hD1⟩ := hB
                rw [ht] at hP1
                try dsimp only at hw_122
                obtain ⟨hP, hD⟩ := va_join (wr := []) (w1 := [(h0, .inr (12, mG q i_taped i_size i_sort i_what i_at i_end i_worth i_faultKind i_faultPlace i_got i_worked (nI dl) i_isPlanned i_bestDone i_bestCost)), (q 51, .inl (E.2.1 0, 512, .inl u_123)), (q 52, .inl (E.2.1 0, 512, .inl u_124)), (q 49, .inl (E.2.1 0, 100, .inl a_flights)), (q 42, .inl (E.2.1 0, 7, .inl a_dFrom)), (q 43, .inl (E.2.1 0, 7, .inl a_dTo)), (q 44, .inl (E.2.1 0, 7, .inl a_dDays)), (q 45, .inl (E.2.1 0, 7, .inl a_dFirst)), (q 46, .inl (E.2.1 0, 7, .inl a_dLast))]) hP hD [0, 1, 2, 3, 4, 5, 6, 7, 8] [] rfl rfl (by decide) (by decide) hk1 hFc hP1 hD1
                generalize H1 = H at hP hS ⊢
                have hP : va_P E.1 vwCl [(h0, .inr (12, mG q i_taped i_size i_sort i_what i_at i_end i_worth i_faultKind i_faultPlace i_got i_worked (nI dl) i_isPlanned i_bestDone i_bestCost)), (q 51, .inl (E.2.1 0, 512, .inl u_123)), (q 52, .inl (E.2.1 0, 512, .inl u_124)), (q 49, .inl (E.2.1 0, 100, .inl a_flights)), (q 42, .inl (E.2.1 0, 7, .inl a_dFrom)), (q 43, .inl (E.2.1 0, 7, .inl a_dTo)), (q 44, .inl (E.2.1 0, 7, .inl a_dDays)), (q 45, .inl (E.2.1 0, 7, .inl a_dFirst)), (q 46, .inl (E.2.1 0, 7, .inl a_dLast))] H := hP
                have hD : va_D A [(h0, .inr (12, mG q i_taped i_size i_sort i_what i_at i_end i_worth i_faultKind i_faultPlace i_got i_worked (nI dl) i_isPlanned i_bestDone i_bestCost)), (q 51, .inl (E.2.1 0, 512, .inl u_123)), (q 52, .inl (E.2.1 0, 512, .inl u_124)), (q 49, .inl (E.2.1 0, 100, .inl a_flights)), (q 42, .inl (E.2.1 0, 7, .inl a_dFrom)), (q 43, .inl (E.2.1 0, 7, .inl a_dTo)), (q 44, .inl (E.2.1 0, 7, .inl a_dDays)), (q 45, .inl (E.2.1 0, 7, .inl a_dFirst)), (q 46, .inl (E.2.1 0, 7, .inl a_dLast))] := hD
                refine lv_iinc (v := (nI (k + 1))) (lv' := [(8, .int (nI (k + 1))), (10, .int x_72), (9, .int x_72), (0, .ref h0), (1, .int (nI cr)), (2, .int (nI po)), (3, .int da), (4, .int (nI se_)), (5, .int (nI ro)), (6, .int co_)]) hx hb dX12_tries_240 hl (k := 9) rfl (show nI k + 1 = nI (k + 1) from nI_1 k) (by decide) rfl (fun ls hl => ?_)
                refine lv_goto (tgt := 78) hx hb dX12_tries_243 (by decide) ?_
                exact ih (k + 1) u_123 u_124 _ _ _ (by omega) (by omega) hf_125 (hP.sub [0, 1, 2, 3, 4, 5, 6, 7, 8] rfl) (hD.sub [0, 1, 2, 3, 4, 5, 6, 7, 8] (by decide) rfl) hS (lv_sub hl [3, 4, 5, 6, 7, 8, 9, 0] rfl)
              · refine lv_goto (tgt := 240) hx hb dX12_tries_180 (by decide) ?_
                refine lv_iinc (v := (nI (k + 1))) (lv' := [(8, .int (nI (k + 1))), (10, .int x_72), (9, .int x_72), (0, .ref h0), (1, .int (nI cr)), (2, .int (nI po)), (3, .int da), (4, .int (nI se_)), (5, .int (nI ro)), (6, .int co_)]) hx hb dX12_tries_240 hl (k := 9) rfl (show nI k + 1 = nI (k + 1) from nI_1 k) (by decide) rfl (fun ls hl => ?_)
                refine lv_goto (tgt := 78) hx hb dX12_tries_243 (by decide) ?_
                exact ih (k + 1) a_least a_order _ _ _ (by omega) (by omega) hI_order (hP.sub [0, 1, 2, 3, 4, 5, 6, 7, 8] rfl) (hD.sub [0, 1, 2, 3, 4, 5, 6, 7, 8] (by decide) rfl) hS (lv_sub hl [3, 4, 5, 6, 7, 8, 9, 0] rfl)
        · refine lv_goto (tgt := 240) hx hb dX12_tries_119 (by decide) ?_
          refine lv_iinc (v := (nI (k + 1))) (lv' := [(8, .int (nI (k + 1))), (0, .ref h0), (1, .int (nI cr)), (2, .int (nI po)), (3, .int da), (4, .int (nI se_)), (5, .int (nI ro)), (6, .int co_)]) hx hb dX12_tries_240 hl (k := 7) rfl (show nI k + 1 = nI (k + 1) from nI_1 k) (by decide) rfl (fun ls hl => ?_)
          refine lv_goto (tgt := 78) hx hb dX12_tries_243 (by decide) ?_
          exact ih (k + 1) a_least a_order _ _ _ (by omega) (by omega) hI_order (hP.sub [0, 1, 2, 3, 4, 5, 6, 7, 8] rfl) (hD.sub [0, 1, 2, 3, 4, 5, 6, 7, 8] (by decide) rfl) hS (lv_sub hl [1, 2, 3, 4, 5, 6, 7, 0] rfl)
set_option maxHeartbeats 4000000 in
set_option maxRecDepth 100000 in
theorem c_X12_tries1 (l : Launch) (E : vE) (h0 : Nat) (q : Nat → Nat) (i_taped : Int32) (i_size : Int32) (i_sort : Int32) (i_what : Int32) (i_at : Int32) (i_end : Int32) (i_worth : Int32) (i_faultKind : Int32) (i_faultPlace : Int32) (i_got : Int32) (i_worked : Int32) (i_isPlanned : Int32) (i_bestDone : Int32) (i_bestCost : Int32) (dl : Nat) (cr : Nat) (po : Nat) (se_ : Nat) (ro : Nat) (a_least : Nat → Int32) (a_order : Nat → Int32) (a_flights : Nat → Int32) (a_dFrom : Nat → Int32) (a_dTo : Nat → Int32) (a_dDays : Nat → Int32) (a_dFirst : Nat → Int32) (a_dLast : Nat → Int32) (da : Int32) (co_ : Int32) (sz : Nat) (hcr : cr < 4) (hpo : po ≤ 9) (hse : se_ < 128) (hdl : dl ≤ 7) (hbc : bc7 se_ = 1) (hro : dg ro 1) (hI_order : ∀ k : Nat, k < 512 → digOK (a_order k)) (hI_dFrom : ∀ k : Nat, k < 7 → inR (a_dFrom k) 0 9 = true) (hI_dTo : ∀ k : Nat, k < 7 → inR (a_dTo k) 0 9 = true) : Met l yX12_tries wsX12_tries ({ frames := 6, cells := 0, slots := 0, locals := 180 }) (pcW E [.ref h0, .int (nI cr), .int (nI po), .int da, .int (nI se_), .int (nI ro), .int co_] sz [(h0, .inr (12, mG q i_taped i_size i_sort i_what i_at i_end i_worth i_faultKind i_faultPlace i_got i_worked (nI dl) i_isPlanned i_bestDone i_bestCost)), (q 51, .inl (E.2.1 0, 512, .inl a_least)), (q 52, .inl (E.2.1 0, 512, .inl a_order)), (q 49, .inl (E.2.1 0, 100, .inl a_flights)), (q 42, .inl (E.2.1 0, 7, .inl a_dFrom)), (q 43, .inl (E.2.1 0, 7, .inl a_dTo)), (q 44, .inl (E.2.1 0, 7, .inl a_dDays)), (q 45, .inl (E.2.1 0, 7, .inl a_dFirst)), (q 46, .inl (E.2.1 0, 7, .inl a_dLast))]) (va_Qv (fun (u : (Nat → Int32) × (Nat → Int32)) => match u with | (b_least, b_order) => True) (fun (u : (Nat → Int32) × (Nat → Int32)) (t : State) => match u with | (b_least, b_order) => (∀ k : Nat, k < 512 → digOK (b_order k)) ∧ wB E (va_A [(h0, .inr (12, mG q i_taped i_size i_sort i_what i_at i_end i_worth i_faultKind i_faultPlace i_got i_worked (nI dl) i_isPlanned i_bestDone i_bestCost)), (q 51, .inl (E.2.1 0, 512, .inl a_least)), (q 52, .inl (E.2.1 0, 512, .inl a_order)), (q 49, .inl (E.2.1 0, 100, .inl a_flights)), (q 42, .inl (E.2.1 0, 7, .inl a_dFrom)), (q 43, .inl (E.2.1 0, 7, .inl a_dTo)), (q 44, .inl (E.2.1 0, 7, .inl a_dDays)), (q 45, .inl (E.2.1 0, 7, .inl a_dFirst)), (q 46, .inl (E.2.1 0, 7, .inl a_dLast))] sz) [(h0, .inr (12, mG q i_taped i_size i_sort i_what i_at i_end i_worth i_faultKind i_faultPlace i_got i_worked (nI dl) i_isPlanned i_bestDone i_bestCost)), (q 51, .inl (E.2.1 0, 512, .inl b_least)), (q 52, .inl (E.2.1 0, 512, .inl b_order)), (q 49, .inl (E.2.1 0, 100, .inl a_flights)), (q 42, .inl (E.2.1 0, 7, .inl a_dFrom)), (q 43, .inl (E.2.1 0, 7, .inl a_dTo)), (q 44, .inl (E.2.1 0, 7, .inl a_dDays)), (q 45, .inl (E.2.1 0, 7, .inl a_dFirst)), (q 46, .inl (E.2.1 0, 7, .inl a_dLast))] t) (va_A [(h0, .inr (12, mG q i_taped i_size i_sort i_what i_at i_end i_worth i_faultKind i_faultPlace i_got i_worked (nI dl) i_isPlanned i_bestDone i_bestCost)), (q 51, .inl (E.2.1 0, 512, .inl a_least)), (q 52, .inl (E.2.1 0, 512, .inl a_order)), (q 49, .inl (E.2.1 0, 100, .inl a_flights)), (q 42, .inl (E.2.1 0, 7, .inl a_dFrom)), (q 43, .inl (E.2.1 0, 7, .inl a_dTo)), (q 44, .inl (E.2.1 0, 7, .inl a_dDays)), (q 45, .inl (E.2.1 0, 7, .inl a_dFirst)), (q 46, .inl (E.2.1 0, 7, .inl a_dLast))] sz)) 0 0 (va_A [(h0, .inr (12, mG q i_taped i_size i_sort i_what i_at i_end i_worth i_faultKind i_faultPlace i_got i_worked (nI dl) i_isPlanned i_bestDone i_bestCost)), (q 51, .inl (E.2.1 0, 512, .inl a_least)), (q 52, .inl (E.2.1 0, 512, .inl a_order)), (q 49, .inl (E.2.1 0, 100, .inl a_flights)), (q 42, .inl (E.2.1 0, 7, .inl a_dFrom)), (q 43, .inl (E.2.1 0, 7, .inl a_dTo)), (q 44, .inl (E.2.1 0, 7, .inl a_dDays)), (q 45, .inl (E.2.1 0, 7, .inl a_dFirst)), (q 46, .inl (E.2.1 0, 7, .inl a_dLast))] sz) := by
  refine Met.ofW (cc := cX12_tries) (maxL := 11) (ret := none) (by decide) rfl ?_
  intro p e s m args below meth c s₁ B hml hv
  obtain ⟨rfl, hsz, hP, hkn, hD0, hst⟩ := hv
  have hx := B.exec
  have hb := B.bytes
  have hr := B.returns
  have hts := atoms_spec (ws := wsX12_tries) B.pre
  have hown : s.vm.findClass RX12 = some m.cls := findClass_of_methodNamed B.named
  have hlocks := B.notSynchronized
  subst hsz
  have hD := hD0.self (sz := s.heap.size)
  have hK := hkn.1
  have hAO := hkn.2.2.1
  generalize hAe : va_A [(h0, .inr (12, mG q i_taped i_size i_sort i_what i_at i_end i_worth i_faultKind i_faultPlace i_got i_worked (nI dl) i_isPlanned i_bestDone i_bestCost)), (q 51, .inl (E.2.1 0, 512, .inl a_least)), (q 52, .inl (E.2.1 0, 512, .inl a_order)), (q 49, .inl (E.2.1 0, 100, .inl a_flights)), (q 42, .inl (E.2.1 0, 7, .inl a_dFrom)), (q 43, .inl (E.2.1 0, 7, .inl a_dTo)), (q 44, .inl (E.2.1 0, 7, .inl a_dDays)), (q 45, .inl (E.2.1 0, 7, .inl a_dFirst)), (q 46, .inl (E.2.1 0, 7, .inl a_dLast))] s.heap.size = A at hD hst ⊢
  have hA : ∀ q : Nat, s.heap.size ≤ q → A q := fun q h => by rw [← hAe]; exact Or.inr h
  have hS : va_S A s.heap s.heap [] := va_S.rf
  have hP : va_P E.1 vwCl [(h0, .inr (12, mG q i_taped i_size i_sort i_what i_at i_end i_worth i_faultKind i_faultPlace i_got i_worked (nI dl) i_isPlanned i_bestDone i_bestCost)), (q 51, .inl (E.2.1 0, 512, .inl a_least)), (q 52, .inl (E.2.1 0, 512, .inl a_order)), (q 49, .inl (E.2.1 0, 100, .inl a_flights)), (q 42, .inl (E.2.1 0, 7, .inl a_dFrom)), (q 43, .inl (E.2.1 0, 7, .inl a_dTo)), (q 44, .inl (E.2.1 0, 7, .inl a_dDays)), (q 45, .inl (E.2.1 0, 7, .inl a_dFirst)), (q 46, .inl (E.2.1 0, 7, .inl a_dLast))] s.heap := hP
  have hl := lv_entry ([.ref h0, .int (nI cr), .int (nI po), .int da, .int (nI se_), .int (nI ro), .int co_]) (n := 11) (Nat.le_of_ble_eq_true rfl)
  rw [lg_entry_eq]
  generalize (lg_sl ([.ref h0, .int (nI cr), .int (nI po), .int da, .int (nI se_), .int (nI ro), .int co_]) ++ List.replicate (11 - (lg_sl ([.ref h0, .int (nI cr), .int (nI po), .int da, .int (nI se_), .int (nI ro), .int co_])).length) Slot.unset).toArray = ls at hl ⊢
  have hl : lv_has ls 11 [(0, .ref h0), (1, .int (nI cr)), (2, .int (nI po)), (3, .int da), (4, .int (nI se_)), (5, .int (nI ro)), (6, .int co_)] := hl
  have fl106 := hts (.fieldLink RX12 106 "BoatsHomeModel" "dFrom" "[I") (by first | exact List.mem_of_getElem? (i := 5) rfl | decide +kernel)
  have fl109 := hts (.fieldLink RX12 109 "BoatsHomeModel" "dTo" "[I") (by first | exact List.mem_of_getElem? (i := 8) rfl | decide +kernel)
  have fl112 := hts (.fieldLink RX12 112 "BoatsHomeModel" "dDays" "[I") (by first | exact List.mem_of_getElem? (i := 9) rfl | decide +kernel)
  have fl115 := hts (.fieldLink RX12 115 "BoatsHomeModel" "dFirst" "[I") (by first | exact List.mem_of_getElem? (i := 6) rfl | decide +kernel)
  have fl118 := hts (.fieldLink RX12 118 "BoatsHomeModel" "dLast" "[I") (by first | exact List.mem_of_getElem? (i := 7) rfl | decide +kernel)
  have fl127 := hts (.fieldLink RX12 127 "BoatsHomeModel" "flights" "[I") (by first | exact List.mem_of_getElem? (i := 4) rfl | decide +kernel)
  have fl130 := hts (.fieldLink RX12 130 "BoatsHomeModel" "least" "[I") (by first | exact List.mem_of_getElem? (i := 1) rfl | decide +kernel)
  have fl133 := hts (.fieldLink RX12 133 "BoatsHomeModel" "order" "[I") (by first | exact List.mem_of_getElem? (i := 2) rfl | decide +kernel)
  have fl289 := hts (.fieldLink RX12 289 "BoatsHomeModel" "deliveries" "I") (by first | exact List.mem_of_getElem? (i := 3) rfl | decide +kernel)
  have inX12 : ∀ w ∈ u_ws RX12 TX12 59, w ∈ wsX12_tries := by first | exact fun w h9 => (List.mem_cons_of_mem _ (List.mem_append_right _ h9)) | decide +kernel
  refine lv_sipush (v := 128) hx hb dX12_tries_0 (by decide) ?_
  refine lv_iload_n hx hb dX12_tries_3 rfl (lv_at hl 1 rfl) ?_
  refine lv_imul hx hb dX12_tries_4 ?_
  refine lv_topi (fun x_1 ex_1 => ?_)
  obtain rfl : x_1 = nI (128 * cr) := ex_1.trans (pk_mul 128 cr)
  refine lv_iload hx hb dX12_tries_5 (lv_at hl 4 rfl) ?_
  refine lv_iadd hx hb dX12_tries_7 ?_
  refine lv_topi (fun x_2 ex_2 => ?_)
  obtain rfl : x_2 = nI ((128 * cr) + se_) := ex_2.trans (nI_add (128 * cr) se_)
  refine lv_istore (lv' := [(7, .int (nI ((128 * cr) + se_))), (0, .ref h0), (1, .int (nI cr)), (2, .int (nI po)), (3, .int da), (4, .int (nI se_)), (5, .int (nI ro)), (6, .int co_)]) hx hb dX12_tries_8 hl (by decide) rfl (fun ls hl => ?_)
  refine lv_aload_n hx hb dX12_tries_10 rfl (lv_at hl 1 rfl) ?_
  refine va_get (D := E.1) (ci := 12) (v := .ref (q 51)) (C := RX12) (T := TX12) (N := 59) hx hb hts inX12 hown hK hP 0 rfl rfl 51 (by decide) fl130 (fun _ h9 => h9) rfl dX12_tries_11 ?_
  refine lv_iload hx hb dX12_tries_14 (lv_at hl 0 rfl) ?_
  have hi_3 : vp_in (nI ((128 * cr) + se_)) 512 := vp_in_nI (by omega) (by decide)
  refine va_iald hx hb hK hP 1 0 rfl rfl hi_3 dX12_tries_16 ?_
  refine lv_topi (fun x_4 ex_4 => ?_)
  refine lv_iconst (v := (-1)) hx hb dX12_tries_17 (by decide) ?_
  refine lv_icmp_eq (tgt := 57) hx hb dX12_tries_18 (by decide) (fun c_5 => ?_) (fun c_5 => ?_)
  · refine lv_aload_n hx hb dX12_tries_57 rfl (lv_at hl 1 rfl) ?_
    refine va_get (D := E.1) (ci := 12) (v := .ref (q 51)) (C := RX12) (T := TX12) (N := 59) hx hb hts inX12 hown hK hP 0 rfl rfl 51 (by decide) fl130 (fun _ h9 => h9) rfl dX12_tries_58 ?_
    refine lv_iload hx hb dX12_tries_61 (lv_at hl 0 rfl) ?_
    refine lv_iload hx hb dX12_tries_63 (lv_at hl 7 rfl) ?_
    refine va_iast hx hb hK hP hD hS 1 0 rfl rfl hi_3 dX12_tries_65 (fun H locs hP hD hS => ?_)
    have hP : va_P E.1 vwCl [(h0, .inr (12, mG q i_taped i_size i_sort i_what i_at i_end i_worth i_faultKind i_faultPlace i_got i_worked (nI dl) i_isPlanned i_bestDone i_bestCost)), (q 51, .inl (E.2.1 0, 512, .inl (upd a_least (nI ((128 * cr) + se_)).toNatClampNeg co_))), (q 52, .inl (E.2.1 0, 512, .inl a_order)), (q 49, .inl (E.2.1 0, 100, .inl a_flights)), (q 42, .inl (E.2.1 0, 7, .inl a_dFrom)), (q 43, .inl (E.2.1 0, 7, .inl a_dTo)), (q 44, .inl (E.2.1 0, 7, .inl a_dDays)), (q 45, .inl (E.2.1 0, 7, .inl a_dFirst)), (q 46, .inl (E.2.1 0, 7, .inl a_dLast))] H := hP
    have hD : va_D A [(h0, .inr (12, mG q i_taped i_size i_sort i_what i_at i_end i_worth i_faultKind i_faultPlace i_got i_worked (nI dl) i_isPlanned i_bestDone i_bestCost)), (q 51, .inl (E.2.1 0, 512, .inl (upd a_least (nI ((128 * cr) + se_)).toNatClampNeg co_))), (q 52, .inl (E.2.1 0, 512, .inl a_order)), (q 49, .inl (E.2.1 0, 100, .inl a_flights)), (q 42, .inl (E.2.1 0, 7, .inl a_dFrom)), (q 43, .inl (E.2.1 0, 7, .inl a_dTo)), (q 44, .inl (E.2.1 0, 7, .inl a_dDays)), (q 45, .inl (E.2.1 0, 7, .inl a_dFirst)), (q 46, .inl (E.2.1 0, 7, .inl a_dLast))] := hD
    obtain ⟨f_6, ef_6⟩ : ∃ g : Nat → Int32, g = upd a_least (nI ((128 * cr) + se_)).toNatClampNeg co_ := ⟨_, rfl⟩
    rw [← ef_6] at hP hD
    refine lv_aload_n hx hb dX12_tries_66 rfl (lv_at hl 1 rfl) ?_
    refine va_get (D := E.1) (ci := 12) (v := .ref (q 52)) (C := RX12) (T := TX12) (N := 59) hx hb hts inX12 hown hK hP 0 rfl rfl 52 (by decide) fl133 (fun _ h9 => h9) rfl dX12_tries_67 ?_
    refine lv_iload hx hb dX12_tries_70 (lv_at hl 0 rfl) ?_
    refine lv_iload hx hb dX12_tries_72 (lv_at hl 6 rfl) ?_
    refine va_iast hx hb hK hP hD hS 2 0 rfl rfl hi_3 dX12_tries_74 (fun H locs hP hD hS => ?_)
    have hP : va_P E.1 vwCl [(h0, .inr (12, mG q i_taped i_size i_sort i_what i_at i_end i_worth i_faultKind i_faultPlace i_got i_worked (nI dl) i_isPlanned i_bestDone i_bestCost)), (q 51, .inl (E.2.1 0, 512, .inl f_6)), (q 52, .inl (E.2.1 0, 512, .inl (upd a_order (nI ((128 * cr) + se_)).toNatClampNeg (nI ro)))), (q 49, .inl (E.2.1 0, 100, .inl a_flights)), (q 42, .inl (E.2.1 0, 7, .inl a_dFrom)), (q 43, .inl (E.2.1 0, 7, .inl a_dTo)), (q 44, .inl (E.2.1 0, 7, .inl a_dDays)), (q 45, .inl (E.2.1 0, 7, .inl a_dFirst)), (q 46, .inl (E.2.1 0, 7, .inl a_dLast))] H := hP
    have hD : va_D A [(h0, .inr (12, mG q i_taped i_size i_sort i_what i_at i_end i_worth i_faultKind i_faultPlace i_got i_worked (nI dl) i_isPlanned i_bestDone i_bestCost)), (q 51, .inl (E.2.1 0, 512, .inl f_6)), (q 52, .inl (E.2.1 0, 512, .inl (upd a_order (nI ((128 * cr) + se_)).toNatClampNeg (nI ro)))), (q 49, .inl (E.2.1 0, 100, .inl a_flights)), (q 42, .inl (E.2.1 0, 7, .inl a_dFrom)), (q 43, .inl (E.2.1 0, 7, .inl a_dTo)), (q 44, .inl (E.2.1 0, 7, .inl a_dDays)), (q 45, .inl (E.2.1 0, 7, .inl a_dFirst)), (q 46, .inl (E.2.1 0, 7, .inl a_dLast))] := hD
    obtain ⟨f_7, ef_7⟩ : ∃ g : Nat → Int32, g = upd a_order (nI ((128 * cr) + se_)).toNatClampNeg (nI ro) := ⟨_, rfl⟩
    rw [← ef_7] at hP hD
    have hI_8 : ∀ k : Nat, k < 512 → digOK (f_7 k) := by rw [ef_7]; exact all_upd (P := fun z => digOK z) hI_order (dg_OK hro (by decide))
    refine lv_iconst (v := 0) hx hb dX12_tries_75 (by decide) ?_
    refine lv_istore (lv' := [(8, .int 0), (7, .int (nI ((128 * cr) + se_))), (0, .ref h0), (1, .int (nI cr)), (2, .int (nI po)), (3, .int da), (4, .int (nI se_)), (5, .int (nI ro)), (6, .int co_)]) hx hb dX12_tries_76 hl (by decide) rfl (fun ls hl => ?_)
    have hPl := hP.sub (ws' := [(h0, .inr (12, mG q i_taped i_size i_sort i_what i_at i_end i_worth i_faultKind i_faultPlace i_got i_worked (nI dl) i_isPlanned i_bestDone i_bestCost)), (q 51, .inl (E.2.1 0, 512, .inl f_6)), (q 52, .inl (E.2.1 0, 512, .inl f_7)), (q 49, .inl (E.2.1 0, 100, .inl a_flights)), (q 42, .inl (E.2.1 0, 7, .inl a_dFrom)), (q 43, .inl (E.2.1 0, 7, .inl a_dTo)), (q 44, .inl (E.2.1 0, 7, .inl a_dDays)), (q 45, .inl (E.2.1 0, 7, .inl a_dFirst)), (q 46, .inl (E.2.1 0, 7, .inl a_dLast))]) [0, 1, 2, 3, 4, 5, 6, 7, 8] rfl
    have hDl := hD.sub (ws' := [(h0, .inr (12, mG q i_taped i_size i_sort i_what i_at i_end i_worth i_faultKind i_faultPlace i_got i_worked (nI dl) i_isPlanned i_bestDone i_bestCost)), (q 51, .inl (E.2.1 0, 512, .inl f_6)), (q 52, .inl (E.2.1 0, 512, .inl f_7)), (q 49, .inl (E.2.1 0, 100, .inl a_flights)), (q 42, .inl (E.2.1 0, 7, .inl a_dFrom)), (q 43, .inl (E.2.1 0, 7, .inl a_dTo)), (q 44, .inl (E.2.1 0, 7, .inl a_dDays)), (q 45, .inl (E.2.1 0, 7, .inl a_dFirst)), (q 46, .inl (E.2.1 0, 7, .inl a_dLast))]) [0, 1, 2, 3, 4, 5, 6, 7, 8] (by decide) rfl
    refine lm_tries1 E h0 q i_taped i_size i_sort i_what i_at i_end i_worth i_faultKind i_faultPlace i_got i_worked i_isPlanned i_bestDone i_bestCost dl cr po se_ ro da co_ a_flights a_dFrom a_dTo a_dDays a_dFirst a_dLast hx hb hml hown hts hkn hst hA (by omega) (by omega) (by omega) (by omega) hbc hro hI_dFrom hI_dTo (fun n_9 n_10 H locs ls hI_order hP hD hS hl => ?_) 9 0 f_6 f_7 _ _ _ (by omega) (by omega) hI_8 hPl hDl hS (lv_sub hl [2, 3, 4, 5, 6, 7, 8, 0] rfl)
    have hP : va_P E.1 vwCl [(h0, .inr (12, mG q i_taped i_size i_sort i_what i_at i_end i_worth i_faultKind i_faultPlace i_got i_worked (nI dl) i_isPlanned i_bestDone i_bestCost)), (q 51, .inl (E.2.1 0, 512, .inl n_9)), (q 52, .inl (E.2.1 0, 512, .inl n_10)), (q 49, .inl (E.2.1 0, 100, .inl a_flights)), (q 42, .inl (E.2.1 0, 7, .inl a_dFrom)), (q 43, .inl (E.2.1 0, 7, .inl a_dTo)), (q 44, .inl (E.2.1 0, 7, .inl a_dDays)), (q 45, .inl (E.2.1 0, 7, .inl a_dFirst)), (q 46, .inl (E.2.1 0, 7, .inl a_dLast))] H := hP
    have hD : va_D A [(h0, .inr (12, mG q i_taped i_size i_sort i_what i_at i_end i_worth i_faultKind i_faultPlace i_got i_worked (nI dl) i_isPlanned i_bestDone i_bestCost)), (q 51, .inl (E.2.1 0, 512, .inl n_9)), (q 52, .inl (E.2.1 0, 512, .inl n_10)), (q 49, .inl (E.2.1 0, 100, .inl a_flights)), (q 42, .inl (E.2.1 0, 7, .inl a_dFrom)), (q 43, .inl (E.2.1 0, 7, .inl a_dTo)), (q 44, .inl (E.2.1 0, 7, .inl a_dDays)), (q 45, .inl (E.2.1 0, 7, .inl a_dFirst)), (q 46, .inl (E.2.1 0, 7, .inl a_dLast))] := hD
    have hP9 := hP.sub (ws' := [(h0, .inr (12, mG q i_taped i_size i_sort i_what i_at i_end i_worth i_faultKind i_faultPlace i_got i_worked (nI dl) i_isPlanned i_bestDone i_bestCost)), (q 51, .inl (E.2.1 0, 512, .inl n_9)), (q 52, .inl (E.2.1 0, 512, .inl n_10)), (q 49, .inl (E.2.1 0, 100, .inl a_flights)), (q 42, .inl (E.2.1 0, 7, .inl a_dFrom)), (q 43, .inl (E.2.1 0, 7, .inl a_dTo)), (q 44, .inl (E.2.1 0, 7, .inl a_dDays)), (q 45, .inl (E.2.1 0, 7, .inl a_dFirst)), (q 46, .inl (E.2.1 0, 7, .inl a_dLast))]) [0, 1, 2, 3, 4, 5, 6, 7, 8] rfl
    have hD9 := hD.sub (ws' := [(h0, .inr (12, mG q i_taped i_size i_sort i_what i_at i_end i_worth i_faultKind i_faultPlace i_got i_worked (nI dl) i_isPlanned i_bestDone i_bestCost)), (q 51, .inl (E.2.1 0, 512, .inl n_9)), (q 52, .inl (E.2.1 0, 512, .inl n_10)), (q 49, .inl (E.2.1 0, 100, .inl a_flights)), (q 42, .inl (E.2.1 0, 7, .inl a_dFrom)), (q 43, .inl (E.2.1 0, 7, .inl a_dTo)), (q 44, .inl (E.2.1 0, 7, .inl a_dDays)), (q 45, .inl (E.2.1 0, 7, .inl a_dFirst)), (q 46, .inl (E.2.1 0, 7, .inl a_dLast))]) [0, 1, 2, 3, 4, 5, 6, 7, 8] (by decide) rfl
    exact W.vret hx hb hr (fun t ht hW => ⟨⟨(n_9, n_10), rfl, trivial, hI_order, by rw [ht]; exact hP9, hD9⟩, hS.F ht⟩) hS.2.2 dX12_tries_246
  · refine lv_iload hx hb dX12_tries_21 (lv_at hl 7 rfl) ?_
    refine lv_aload_n hx hb dX12_tries_23 rfl (lv_at hl 1 rfl) ?_
    refine va_get (D := E.1) (ci := 12) (v := .ref (q 51)) (C := RX12) (T := TX12) (N := 59) hx hb hts inX12 hown hK hP 0 rfl rfl 51 (by decide) fl130 (fun _ h9 => h9) rfl dX12_tries_24 ?_
    refine lv_iload hx hb dX12_tries_27 (lv_at hl 0 rfl) ?_
    refine va_iald hx hb hK hP 1 0 rfl rfl hi_3 dX12_tries_29 ?_
    refine lv_topi (fun x_11 ex_11 => ?_)
    refine lv_icmp_lt (tgt := 57) hx hb dX12_tries_30 (by decide) (fun c_12 => ?_) (fun c_12 => ?_)
    · refine lv_aload_n hx hb dX12_tries_57 rfl (lv_at hl 1 rfl) ?_
      refine va_get (D := E.1) (ci := 12) (v := .ref (q 51)) (C := RX12) (T := TX12) (N := 59) hx hb hts inX12 hown hK hP 0 rfl rfl 51 (by decide) fl130 (fun _ h9 => h9) rfl dX12_tries_58 ?_
      refine lv_iload hx hb dX12_tries_61 (lv_at hl 0 rfl) ?_
      refine lv_iload hx hb dX12_tries_63 (lv_at hl 7 rfl) ?_
      refine va_iast hx hb hK hP hD hS 1 0 rfl rfl hi_3 dX12_tries_65 (fun H locs hP hD hS => ?_)
      have hP : va_P E.1 vwCl [(h0, .inr (12, mG q i_taped i_size i_sort i_what i_at i_end i_worth i_faultKind i_faultPlace i_got i_worked (nI dl) i_isPlanned i_bestDone i_bestCost)), (q 51, .inl (E.2.1 0, 512, .inl (upd a_least (nI ((128 * cr) + se_)).toNatClampNeg co_))), (q 52, .inl (E.2.1 0, 512, .inl a_order)), (q 49, .inl (E.2.1 0, 100, .inl a_flights)), (q 42, .inl (E.2.1 0, 7, .inl a_dFrom)), (q 43, .inl (E.2.1 0, 7, .inl a_dTo)), (q 44, .inl (E.2.1 0, 7, .inl a_dDays)), (q 45, .inl (E.2.1 0, 7, .inl a_dFirst)), (q 46, .inl (E.2.1 0, 7, .inl a_dLast))] H := hP
      have hD : va_D A [(h0, .inr (12, mG q i_taped i_size i_sort i_what i_at i_end i_worth i_faultKind i_faultPlace i_got i_worked (nI dl) i_isPlanned i_bestDone i_bestCost)), (q 51, .inl (E.2.1 0, 512, .inl (upd a_least (nI ((128 * cr) + se_)).toNatClampNeg co_))), (q 52, .inl (E.2.1 0, 512, .inl a_order)), (q 49, .inl (E.2.1 0, 100, .inl a_flights)), (q 42, .inl (E.2.1 0, 7, .inl a_dFrom)), (q 43, .inl (E.2.1 0, 7, .inl a_dTo)), (q 44, .inl (E.2.1 0, 7, .inl a_dDays)), (q 45, .inl (E.2.1 0, 7, .inl a_dFirst)), (q 46, .inl (E.2.1 0, 7, .inl a_dLast))] := hD
      obtain ⟨f_13, ef_13⟩ : ∃ g : Nat → Int32, g = upd a_least (nI ((128 * cr) + se_)).toNatClampNeg co_ := ⟨_, rfl⟩
      rw [← ef_13] at hP hD
      refine lv_aload_n hx hb dX12_tries_66 rfl (lv_at hl 1 rfl) ?_
      refine va_get (D := E.1) (ci := 12) (v := .ref (q 52)) (C := RX12) (T := TX12) (N := 59) hx hb hts inX12 hown hK hP 0 rfl rfl 52 (by decide) fl133 (fun _ h9 => h9) rfl dX12_tries_67 ?_
      refine lv_iload hx hb dX12_tries_70 (lv_at hl 0 rfl) ?_
      refine lv_iload hx hb dX12_tries_72 (lv_at hl 6 rfl) ?_
      refine va_iast hx hb hK hP hD hS 2 0 rfl rfl hi_3 dX12_tries_74 (fun H locs hP hD hS => ?_)
      have hP : va_P E.1 vwCl [(h0, .inr (12, mG q i_taped i_size i_sort i_what i_at i_end i_worth i_faultKind i_faultPlace i_got i_worked (nI dl) i_isPlanned i_bestDone i_bestCost)), (q 51, .inl (E.2.1 0, 512, .inl f_13)), (q 52, .inl (E.2.1 0, 512, .inl (upd a_order (nI ((128 * cr) + se_)).toNatClampNeg (nI ro)))), (q 49, .inl (E.2.1 0, 100, .inl a_flights)), (q 42, .inl (E.2.1 0, 7, .inl a_dFrom)), (q 43, .inl (E.2.1 0, 7, .inl a_dTo)), (q 44, .inl (E.2.1 0, 7, .inl a_dDays)), (q 45, .inl (E.2.1 0, 7, .inl a_dFirst)), (q 46, .inl (E.2.1 0, 7, .inl a_dLast))] H := hP
      have hD : va_D A [(h0, .inr (12, mG q i_taped i_size i_sort i_what i_at i_end i_worth i_faultKind i_faultPlace i_got i_worked (nI dl) i_isPlanned i_bestDone i_bestCost)), (q 51, .inl (E.2.1 0, 512, .inl f_13)), (q 52, .inl (E.2.1 0, 512, .inl (upd a_order (nI ((128 * cr) + se_)).toNatClampNeg (nI ro)))), (q 49, .inl (E.2.1 0, 100, .inl a_flights)), (q 42, .inl (E.2.1 0, 7, .inl a_dFrom)), (q 43, .inl (E.2.1 0, 7, .inl a_dTo)), (q 44, .inl (E.2.1 0, 7, .inl a_dDays)), (q 45, .inl (E.2.1 0, 7, .inl a_dFirst)), (q 46, .inl (E.2.1 0, 7, .inl a_dLast))] := hD
      obtain ⟨f_14, ef_14⟩ : ∃ g : Nat → Int32, g = upd a_order (nI ((128 * cr) + se_)).toNatClampNeg (nI ro) := ⟨_, rfl⟩
      rw [← ef_14] at hP hD
      have hI_15 : ∀ k : Nat, k < 512 → digOK (f_14 k) := by rw [ef_14]; exact all_upd (P := fun z => digOK z) hI_order (dg_OK hro (by decide))
      refine lv_iconst (v := 0) hx hb dX12_tries_75 (by decide) ?_
      refine lv_istore (lv' := [(8, .int 0), (7, .int (nI ((128 * cr) + se_))), (0, .ref h0), (1, .int (nI cr)), (2, .int (nI po)), (3, .int da), (4, .int (nI se_)), (5, .int (nI ro)), (6, .int co_)]) hx hb dX12_tries_76 hl (by decide) rfl (fun ls hl => ?_)
      have hPl := hP.sub (ws' := [(h0, .inr (12, mG q i_taped i_size i_sort i_what i_at i_end i_worth i_faultKind i_faultPlace i_got i_worked (nI dl) i_isPlanned i_bestDone i_bestCost)), (q 51, .inl (E.2.1 0, 512, .inl f_13)), (q 52, .inl (E.2.1 0, 512, .inl f_14)), (q 49, .inl (E.2.1 0, 100, .inl a_flights)), (q 42, .inl (E.2.1 0, 7, .inl a_dFrom)), (q 43, .inl (E.2.1 0, 7, .inl a_dTo)), (q 44, .inl (E.2.1 0, 7, .inl a_dDays)), (q 45, .inl (E.2.1 0, 7, .inl a_dFirst)), (q 46, .inl (E.2.1 0, 7, .inl a_dLast))]) [0, 1, 2, 3, 4, 5, 6, 7, 8] rfl
      have hDl := hD.sub (ws' := [(h0, .inr (12, mG q i_taped i_size i_sort i_what i_at i_end i_worth i_faultKind i_faultPlace i_got i_worked (nI dl) i_isPlanned i_bestDone i_bestCost)), (q 51, .inl (E.2.1 0, 512, .inl f_13)), (q 52, .inl (E.2.1 0, 512, .inl f_14)), (q 49, .inl (E.2.1 0, 100, .inl a_flights)), (q 42, .inl (E.2.1 0, 7, .inl a_dFrom)), (q 43, .inl (E.2.1 0, 7, .inl a_dTo)), (q 44, .inl (E.2.1 0, 7, .inl a_dDays)), (q 45, .inl (E.2.1 0, 7, .inl a_dFirst)), (q 46, .inl (E.2.1 0, 7, .inl a_dLast))]) [0, 1, 2, 3, 4, 5, 6, 7, 8] (by decide) rfl
      refine lm_tries1 E h0 q i_taped i_size i_sort i_what i_at i_end i_worth i_faultKind i_faultPlace i_got i_worked i_isPlanned i_bestDone i_bestCost dl cr po se_ ro da co_ a_flights a_dFrom a_dTo a_dDays a_dFirst a_dLast hx hb hml hown hts hkn hst hA (by omega) (by omega) (by omega) (by omega) hbc hro hI_dFrom hI_dTo (fun n_16 n_17 H locs ls hI_order hP hD hS hl => ?_) 9 0 f_13 f_14 _ _ _ (by omega) (by omega) hI_15 hPl hDl hS (lv_sub hl [2, 3, 4, 5, 6, 7, 8, 0] rfl)
      have hP : va_P E.1 vwCl [(h0, .inr (12, mG q i_taped i_size i_sort i_what i_at i_end i_worth i_faultKind i_faultPlace i_got i_worked (nI dl) i_isPlanned i_bestDone i_bestCost)), (q 51, .inl (E.2.1 0, 512, .inl n_16)), (q 52, .inl (E.2.1 0, 512, .inl n_17)), (q 49, .inl (E.2.1 0, 100, .inl a_flights)), (q 42, .inl (E.2.1 0, 7, .inl a_dFrom)), (q 43, .inl (E.2.1 0, 7, .inl a_dTo)), (q 44, .inl (E.2.1 0, 7, .inl a_dDays)), (q 45, .inl (E.2.1 0, 7, .inl a_dFirst)), (q 46, .inl (E.2.1 0, 7, .inl a_dLast))] H := hP
      have hD : va_D A [(h0, .inr (12, mG q i_taped i_size i_sort i_what i_at i_end i_worth i_faultKind i_faultPlace i_got i_worked (nI dl) i_isPlanned i_bestDone i_bestCost)), (q 51, .inl (E.2.1 0, 512, .inl n_16)), (q 52, .inl (E.2.1 0, 512, .inl n_17)), (q 49, .inl (E.2.1 0, 100, .inl a_flights)), (q 42, .inl (E.2.1 0, 7, .inl a_dFrom)), (q 43, .inl (E.2.1 0, 7, .inl a_dTo)), (q 44, .inl (E.2.1 0, 7, .inl a_dDays)), (q 45, .inl (E.2.1 0, 7, .inl a_dFirst)), (q 46, .inl (E.2.1 0, 7, .inl a_dLast))] := hD
      have hP9 := hP.sub (ws' := [(h0, .inr (12, mG q i_taped i_size i_sort i_what i_at i_end i_worth i_faultKind i_faultPlace i_got i_worked (nI dl) i_isPlanned i_bestDone i_bestCost)), (q 51, .inl (E.2.1 0, 512, .inl n_16)), (q 52, .inl (E.2.1 0, 512, .inl n_17)), (q 49, .inl (E.2.1 0, 100, .inl a_flights)), (q 42, .inl (E.2.1 0, 7, .inl a_dFrom)), (q 43, .inl (E.2.1 0, 7, .inl a_dTo)), (q 44, .inl (E.2.1 0, 7, .inl a_dDays)), (q 45, .inl (E.2.1 0, 7, .inl a_dFirst)), (q 46, .inl (E.2.1 0, 7, .inl a_dLast))]) [0, 1, 2, 3, 4, 5, 6, 7, 8] rfl
      have hD9 := hD.sub (ws' := [(h0, .inr (12, mG q i_taped i_size i_sort i_what i_at i_end i_worth i_faultKind i_faultPlace i_got i_worked (nI dl) i_isPlanned i_bestDone i_bestCost)), (q 51, .inl (E.2.1 0, 512, .inl n_16)), (q 52, .inl (E.2.1 0, 512, .inl n_17)), (q 49, .inl (E.2.1 0, 100, .inl a_flights)), (q 42, .inl (E.2.1 0, 7, .inl a_dFrom)), (q 43, .inl (E.2.1 0, 7, .inl a_dTo)), (q 44, .inl (E.2.1 0, 7, .inl a_dDays)), (q 45, .inl (E.2.1 0, 7, .inl a_dFirst)), (q 46, .inl (E.2.1 0, 7, .inl a_dLast))]) [0, 1, 2, 3, 4, 5, 6, 7, 8] (by decide) rfl
      exact W.vret hx hb hr (fun t ht hW => ⟨⟨(n_16, n_17), rfl, trivial, hI_order, by rw [ht]; exact hP9, hD9⟩, hS.F ht⟩) hS.2.2 dX12_tries_246
    · refine lv_iload hx hb dX12_tries_33 (lv_at hl 7 rfl) ?_
      refine lv_aload_n hx hb dX12_tries_35 rfl (lv_at hl 1 rfl) ?_
      refine va_get (D := E.1) (ci := 12) (v := .ref (q 51)) (C := RX12) (T := TX12) (N := 59) hx hb hts inX12 hown hK hP 0 rfl rfl 51 (by decide) fl130 (fun _ h9 => h9) rfl dX12_tries_36 ?_
      refine lv_iload hx hb dX12_tries_39 (lv_at hl 0 rfl) ?_
      refine va_iald hx hb hK hP 1 0 rfl rfl hi_3 dX12_tries_41 ?_
      refine lv_topi (fun x_18 ex_18 => ?_)
      refine lv_icmp_ne (tgt := 75) hx hb dX12_tries_42 (by decide) (fun c_19 => ?_) (fun c_19 => ?_)
      · refine lv_iconst (v := 0) hx hb dX12_tries_75 (by decide) ?_
        refine lv_istore (lv' := [(8, .int 0), (7, .int (nI ((128 * cr) + se_))), (0, .ref h0), (1, .int (nI cr)), (2, .int (nI po)), (3, .int da), (4, .int (nI se_)), (5, .int (nI ro)), (6, .int co_)]) hx hb dX12_tries_76 hl (by decide) rfl (fun ls hl => ?_)
        have hPl := hP.sub (ws' := [(h0, .inr (12, mG q i_taped i_size i_sort i_what i_at i_end i_worth i_faultKind i_faultPlace i_got i_worked (nI dl) i_isPlanned i_bestDone i_bestCost)), (q 51, .inl (E.2.1 0, 512, .inl a_least)), (q 52, .inl (E.2.1 0, 512, .inl a_order)), (q 49, .inl (E.2.1 0, 100, .inl a_flights)), (q 42, .inl (E.2.1 0, 7, .inl a_dFrom)), (q 43, .inl (E.2.1 0, 7, .inl a_dTo)), (q 44, .inl (E.2.1 0, 7, .inl a_dDays)), (q 45, .inl (E.2.1 0, 7, .inl a_dFirst)), (q 46, .inl (E.2.1 0, 7, .inl a_dLast))]) [0, 1, 2, 3, 4, 5, 6, 7, 8] rfl
        have hDl := hD.sub (ws' := [(h0, .inr (12, mG q i_taped i_size i_sort i_what i_at i_end i_worth i_faultKind i_faultPlace i_got i_worked (nI dl) i_isPlanned i_bestDone i_bestCost)), (q 51, .inl (E.2.1 0, 512, .inl a_least)), (q 52, .inl (E.2.1 0, 512, .inl a_order)), (q 49, .inl (E.2.1 0, 100, .inl a_flights)), (q 42, .inl (E.2.1 0, 7, .inl a_dFrom)), (q 43, .inl (E.2.1 0, 7, .inl a_dTo)), (q 44, .inl (E.2.1 0, 7, .inl a_dDays)), (q 45, .inl (E.2.1 0, 7, .inl a_dFirst)), (q 46, .inl (E.2.1 0, 7, .inl a_dLast))]) [0, 1, 2, 3, 4, 5, 6, 7, 8] (by decide) rfl
        refine lm_tries1 E h0 q i_taped i_size i_sort i_what i_at i_end i_worth i_faultKind i_faultPlace i_got i_worked i_isPlanned i_bestDone i_bestCost dl cr po se_ ro da co_ a_flights a_dFrom a_dTo a_dDays a_dFirst a_dLast hx hb hml hown hts hkn hst hA (by omega) (by omega) (by omega) (by omega) hbc hro hI_dFrom hI_dTo (fun n_20 n_21 H locs ls hI_order hP hD hS hl => ?_) 9 0 a_least a_order _ _ _ (by omega) (by omega) hI_order hPl hDl hS (lv_sub hl [2, 3, 4, 5, 6, 7, 8, 0] rfl)
        have hP : va_P E.1 vwCl [(h0, .inr (12, mG q i_taped i_size i_sort i_what i_at i_end i_worth i_faultKind i_faultPlace i_got i_worked (nI dl) i_isPlanned i_bestDone i_bestCost)), (q 51, .inl (E.2.1 0, 512, .inl n_20)), (q 52, .inl (E.2.1 0, 512, .inl n_21)), (q 49, .inl (E.2.1 0, 100, .inl a_flights)), (q 42, .inl (E.2.1 0, 7, .inl a_dFrom)), (q 43, .inl (E.2.1 0, 7, .inl a_dTo)), (q 44, .inl (E.2.1 0, 7, .inl a_dDays)), (q 45, .inl (E.2.1 0, 7, .inl a_dFirst)), (q 46, .inl (E.2.1 0, 7, .inl a_dLast))] H := hP
        have hD : va_D A [(h0, .inr (12, mG q i_taped i_size i_sort i_what i_at i_end i_worth i_faultKind i_faultPlace i_got i_worked (nI dl) i_isPlanned i_bestDone i_bestCost)), (q 51, .inl (E.2.1 0, 512, .inl n_20)), (q 52, .inl (E.2.1 0, 512, .inl n_21)), (q 49, .inl (E.2.1 0, 100, .inl a_flights)), (q 42, .inl (E.2.1 0, 7, .inl a_dFrom)), (q 43, .inl (E.2.1 0, 7, .inl a_dTo)), (q 44, .inl (E.2.1 0, 7, .inl a_dDays)), (q 45, .inl (E.2.1 0, 7, .inl a_dFirst)), (q 46, .inl (E.2.1 0, 7, .inl a_dLast))] := hD
        have hP9 := hP.sub (ws' := [(h0, .inr (12, mG q i_taped i_size i_sort i_what i_at i_end i_worth i_faultKind i_faultPlace i_got i_worked (nI dl) i_isPlanned i_bestDone i_bestCost)), (q 51, .inl (E.2.1 0, 512, .inl n_20)), (q 52, .inl (E.2.1 0, 512, .inl n_21)), (q 49, .inl (E.2.1 0, 100, .inl a_flights)), (q 42, .inl (E.2.1 0, 7, .inl a_dFrom)), (q 43, .inl (E.2.1 0, 7, .inl a_dTo)), (q 44, .inl (E.2.1 0, 7, .inl a_dDays)), (q 45, .inl (E.2.1 0, 7, .inl a_dFirst)), (q 46, .inl (E.2.1 0, 7, .inl a_dLast))]) [0, 1, 2, 3, 4, 5, 6, 7, 8] rfl
        have hD9 := hD.sub (ws' := [(h0, .inr (12, mG q i_taped i_size i_sort i_what i_at i_end i_worth i_faultKind i_faultPlace i_got i_worked (nI dl) i_isPlanned i_bestDone i_bestCost)), (q 51, .inl (E.2.1 0, 512, .inl n_20)), (q 52, .inl (E.2.1 0, 512, .inl n_21)), (q 49, .inl (E.2.1 0, 100, .inl a_flights)), (q 42, .inl (E.2.1 0, 7, .inl a_dFrom)), (q 43, .inl (E.2.1 0, 7, .inl a_dTo)), (q 44, .inl (E.2.1 0, 7, .inl a_dDays)), (q 45, .inl (E.2.1 0, 7, .inl a_dFirst)), (q 46, .inl (E.2.1 0, 7, .inl a_dLast))]) [0, 1, 2, 3, 4, 5, 6, 7, 8] (by decide) rfl
        exact W.vret hx hb hr (fun t ht hW => ⟨⟨(n_20, n_21), rfl, trivial, hI_order, by rw [ht]; exact hP9, hD9⟩, hS.F ht⟩) hS.2.2 dX12_tries_246
      · refine lv_iload hx hb dX12_tries_45 (lv_at hl 6 rfl) ?_
        refine lv_aload_n hx hb dX12_tries_47 rfl (lv_at hl 1 rfl) ?_
        refine va_get (D := E.1) (ci := 12) (v := .ref (q 52)) (C := RX12) (T := TX12) (N := 59) hx hb hts inX12 hown hK hP 0 rfl rfl 52 (by decide) fl133 (fun _ h9 => h9) rfl dX12_tries_48 ?_
        refine lv_iload hx hb dX12_tries_51 (lv_at hl 0 rfl) ?_
        refine va_iald hx hb hK hP 2 0 rfl rfl hi_3 dX12_tries_53 ?_
        refine lv_topi (fun x_22 ex_22 => ?_)
        have hv_23 : digOK x_22 := by rw [ex_22]; exact hI_order _ (vin_cl hi_3)
        refine lv_icmp_ge (tgt := 75) hx hb dX12_tries_54 (by decide) (fun c_24 => ?_) (fun c_24 => ?_)
        · refine lv_iconst (v := 0) hx hb dX12_tries_75 (by decide) ?_
          refine lv_istore (lv' := [(8, .int 0), (7, .int (nI ((128 * cr) + se_))), (0, .ref h0), (1, .int (nI cr)), (2, .int (nI po)), (3, .int da), (4, .int (nI se_)), (5, .int (nI ro)), (6, .int co_)]) hx hb dX12_tries_76 hl (by decide) rfl (fun ls hl => ?_)
          have hPl := hP.sub (ws' := [(h0, .inr (12, mG q i_taped i_size i_sort i_what i_at i_end i_worth i_faultKind i_faultPlace i_got i_worked (nI dl) i_isPlanned i_bestDone i_bestCost)), (q 51, .inl (E.2.1 0, 512, .inl a_least)), (q 52, .inl (E.2.1 0, 512, .inl a_order)), (q 49, .inl (E.2.1 0, 100, .inl a_flights)), (q 42, .inl (E.2.1 0, 7, .inl a_dFrom)), (q 43, .inl (E.2.1 0, 7, .inl a_dTo)), (q 44, .inl (E.2.1 0, 7, .inl a_dDays)), (q 45, .inl (E.2.1 0, 7, .inl a_dFirst)), (q 46, .inl (E.2.1 0, 7, .inl a_dLast))]) [0, 1, 2, 3, 4, 5, 6, 7, 8] rfl
          have hDl := hD.sub (ws' := [(h0, .inr (12, mG q i_taped i_size i_sort i_what i_at i_end i_worth i_faultKind i_faultPlace i_got i_worked (nI dl) i_isPlanned i_bestDone i_bestCost)), (q 51, .inl (E.2.1 0, 512, .inl a_least)), (q 52, .inl (E.2.1 0, 512, .inl a_order)), (q 49, .inl (E.2.1 0, 100, .inl a_flights)), (q 42, .inl (E.2.1 0, 7, .inl a_dFrom)), (q 43, .inl (E.2.1 0, 7, .inl a_dTo)), (q 44, .inl (E.2.1 0, 7, .inl a_dDays)), (q 45, .inl (E.2.1 0, 7, .inl a_dFirst)), (q 46, .inl (E.2.1 0, 7, .inl a_dLast))]) [0, 1, 2, 3, 4, 5, 6, 7, 8] (by decide) rfl
          refine lm_tries1 E h0 q i_taped i_size i_sort i_what i_at i_end i_worth i_faultKind i_faultPlace i_got i_worked i_isPlanned i_bestDone i_bestCost dl cr po se_ ro da co_ a_flights a_dFrom a_dTo a_dDays a_dFirst a_dLast hx hb hml hown hts hkn hst hA (by omega) (by omega) (by omega) (by omega) hbc hro hI_dFrom hI_dTo (fun n_25 n_26 H locs ls hI_order hP hD hS hl => ?_) 9 0 a_least a_order _ _ _ (by omega) (by omega) hI_order hPl hDl hS (lv_sub hl [2, 3, 4, 5, 6, 7, 8, 0] rfl)
          have hP : va_P E.1 vwCl [(h0, .inr (12, mG q i_taped i_size i_sort i_what i_at i_end i_worth i_faultKind i_faultPlace i_got i_worked (nI dl) i_isPlanned i_bestDone i_bestCost)), (q 51, .inl (E.2.1 0, 512, .inl n_25)), (q 52, .inl (E.2.1 0, 512, .inl n_26)), (q 49, .inl (E.2.1 0, 100, .inl a_flights)), (q 42, .inl (E.2.1 0, 7, .inl a_dFrom)), (q 43, .inl (E.2.1 0, 7, .inl a_dTo)), (q 44, .inl (E.2.1 0, 7, .inl a_dDays)), (q 45, .inl (E.2.1 0, 7, .inl a_dFirst)), (q 46, .inl (E.2.1 0, 7, .inl a_dLast))] H := hP
          have hD : va_D A [(h0, .inr (12, mG q i_taped i_size i_sort i_what i_at i_end i_worth i_faultKind i_faultPlace i_got i_worked (nI dl) i_isPlanned i_bestDone i_bestCost)), (q 51, .inl (E.2.1 0, 512, .inl n_25)), (q 52, .inl (E.2.1 0, 512, .inl n_26)), (q 49, .inl (E.2.1 0, 100, .inl a_flights)), (q 42, .inl (E.2.1 0, 7, .inl a_dFrom)), (q 43, .inl (E.2.1 0, 7, .inl a_dTo)), (q 44, .inl (E.2.1 0, 7, .inl a_dDays)), (q 45, .inl (E.2.1 0, 7, .inl a_dFirst)), (q 46, .inl (E.2.1 0, 7, .inl a_dLast))] := hD
          have hP9 := hP.sub (ws' := [(h0, .inr (12, mG q i_taped i_size i_sort i_what i_at i_end i_worth i_faultKind i_faultPlace i_got i_worked (nI dl) i_isPlanned i_bestDone i_bestCost)), (q 51, .inl (E.2.1 0, 512, .inl n_25)), (q 52, .inl (E.2.1 0, 512, .inl n_26)), (q 49, .inl (E.2.1 0, 100, .inl a_flights)), (q 42, .inl (E.2.1 0, 7, .inl a_dFrom)), (q 43, .inl (E.2.1 0, 7, .inl a_dTo)), (q 44, .inl (E.2.1 0, 7, .inl a_dDays)), (q 45, .inl (E.2.1 0, 7, .inl a_dFirst)), (q 46, .inl (E.2.1 0, 7, .inl a_dLast))]) [0, 1, 2, 3, 4, 5, 6, 7, 8] rfl
          have hD9 := hD.sub (ws' := [(h0, .inr (12, mG q i_taped i_size i_sort i_what i_at i_end i_worth i_faultKind i_faultPlace i_got i_worked (nI dl) i_isPlanned i_bestDone i_bestCost)), (q 51, .inl (E.2.1 0, 512, .inl n_25)), (q 52, .inl (E.2.1 0, 512, .inl n_26)), (q 49, .inl (E.2.1 0, 100, .inl a_flights)), (q 42, .inl (E.2.1 0, 7, .inl a_dFrom)), (q 43, .inl (E.2.1 0, 7, .inl a_dTo)), (q 44, .inl (E.2.1 0, 7, .inl a_dDays)), (q 45, .inl (E.2.1 0, 7, .inl a_dFirst)), (q 46, .inl (E.2.1 0, 7, .inl a_dLast))]) [0, 1, 2, 3, 4, 5, 6, 7, 8] (by decide) rfl
          exact W.vret hx hb hr (fun t ht hW => ⟨⟨(n_25, n_26), rfl, trivial, hI_order, by rw [ht]; exact hP9, hD9⟩, hS.F ht⟩) hS.2.2 dX12_tries_246
        · refine lv_aload_n hx hb dX12_tries_57 rfl (lv_at hl 1 rfl) ?_
          refine va_get (D := E.1) (ci := 12) (v := .ref (q 51)) (C := RX12) (T := TX12) (N := 59) hx hb hts inX12 hown hK hP 0 rfl rfl 51 (by decide) fl130 (fun _ h9 => h9) rfl dX12_tries_58 ?_
          refine lv_iload hx hb dX12_tries_61 (lv_at hl 0 rfl) ?_
          refine lv_iload hx hb dX12_tries_63 (lv_at hl 7 rfl) ?_
          refine va_iast hx hb hK hP hD hS 1 0 rfl rfl hi_3 dX12_tries_65 (fun H locs hP hD hS => ?_)
          have hP : va_P E.1 vwCl [(h0, .inr (12, mG q i_taped i_size i_sort i_what i_at i_end i_worth i_faultKind i_faultPlace i_got i_worked (nI dl) i_isPlanned i_bestDone i_bestCost)), (q 51, .inl (E.2.1 0, 512, .inl (upd a_least (nI ((128 * cr) + se_)).toNatClampNeg co_))), (q 52, .inl (E.2.1 0, 512, .inl a_order)), (q 49, .inl (E.2.1 0, 100, .inl a_flights)), (q 42, .inl (E.2.1 0, 7, .inl a_dFrom)), (q 43, .inl (E.2.1 0, 7, .inl a_dTo)), (q 44, .inl (E.2.1 0, 7, .inl a_dDays)), (q 45, .inl (E.2.1 0, 7, .inl a_dFirst)), (q 46, .inl (E.2.1 0, 7, .inl a_dLast))] H := hP
          have hD : va_D A [(h0, .inr (12, mG q i_taped i_size i_sort i_what i_at i_end i_worth i_faultKind i_faultPlace i_got i_worked (nI dl) i_isPlanned i_bestDone i_bestCost)), (q 51, .inl (E.2.1 0, 512, .inl (upd a_least (nI ((128 * cr) + se_)).toNatClampNeg co_))), (q 52, .inl (E.2.1 0, 512, .inl a_order)), (q 49, .inl (E.2.1 0, 100, .inl a_flights)), (q 42, .inl (E.2.1 0, 7, .inl a_dFrom)), (q 43, .inl (E.2.1 0, 7, .inl a_dTo)), (q 44, .inl (E.2.1 0, 7, .inl a_dDays)), (q 45, .inl (E.2.1 0, 7, .inl a_dFirst)), (q 46, .inl (E.2.1 0, 7, .inl a_dLast))] := hD
          obtain ⟨f_27, ef_27⟩ : ∃ g : Nat → Int32, g = upd a_least (nI ((128 * cr) + se_)).toNatClampNeg co_ := ⟨_, rfl⟩
          rw [← ef_27] at hP hD
          refine lv_aload_n hx hb dX12_tries_66 rfl (lv_at hl 1 rfl) ?_
          refine va_get (D := E.1) (ci := 12) (v := .ref (q 52)) (C := RX12) (T := TX12) (N := 59) hx hb hts inX12 hown hK hP 0 rfl rfl 52 (by decide) fl133 (fun _ h9 => h9) rfl dX12_tries_67 ?_
          refine lv_iload hx hb dX12_tries_70 (lv_at hl 0 rfl) ?_
          refine lv_iload hx hb dX12_tries_72 (lv_at hl 6 rfl) ?_
          refine va_iast hx hb hK hP hD hS 2 0 rfl rfl hi_3 dX12_tries_74 (fun H locs hP hD hS => ?_)
          have hP : va_P E.1 vwCl [(h0, .inr (12, mG q i_taped i_size i_sort i_what i_at i_end i_worth i_faultKind i_faultPlace i_got i_worked (nI dl) i_isPlanned i_bestDone i_bestCost)), (q 51, .inl (E.2.1 0, 512, .inl f_27)), (q 52, .inl (E.2.1 0, 512, .inl (upd a_order (nI ((128 * cr) + se_)).toNatClampNeg (nI ro)))), (q 49, .inl (E.2.1 0, 100, .inl a_flights)), (q 42, .inl (E.2.1 0, 7, .inl a_dFrom)), (q 43, .inl (E.2.1 0, 7, .inl a_dTo)), (q 44, .inl (E.2.1 0, 7, .inl a_dDays)), (q 45, .inl (E.2.1 0, 7, .inl a_dFirst)), (q 46, .inl (E.2.1 0, 7, .inl a_dLast))] H := hP
          have hD : va_D A [(h0, .inr (12, mG q i_taped i_size i_sort i_what i_at i_end i_worth i_faultKind i_faultPlace i_got i_worked (nI dl) i_isPlanned i_bestDone i_bestCost)), (q 51, .inl (E.2.1 0, 512, .inl f_27)), (q 52, .inl (E.2.1 0, 512, .inl (upd a_order (nI ((128 * cr) + se_)).toNatClampNeg (nI ro)))), (q 49, .inl (E.2.1 0, 100, .inl a_flights)), (q 42, .inl (E.2.1 0, 7, .inl a_dFrom)), (q 43, .inl (E.2.1 0, 7, .inl a_dTo)), (q 44, .inl (E.2.1 0, 7, .inl a_dDays)), (q 45, .inl (E.2.1 0, 7, .inl a_dFirst)), (q 46, .inl (E.2.1 0, 7, .inl a_dLast))] := hD
          obtain ⟨f_28, ef_28⟩ : ∃ g : Nat → Int32, g = upd a_order (nI ((128 * cr) + se_)).toNatClampNeg (nI ro) := ⟨_, rfl⟩
          rw [← ef_28] at hP hD
          have hI_29 : ∀ k : Nat, k < 512 → digOK (f_28 k) := by rw [ef_28]; exact all_upd (P := fun z => digOK z) hI_order (dg_OK hro (by decide))
          refine lv_iconst (v := 0) hx hb dX12_tries_75 (by decide) ?_
          refine lv_istore (lv' := [(8, .int 0), (7, .int (nI ((128 * cr) + se_))), (0, .ref h0), (1, .int (nI cr)), (2, .int (nI po)), (3, .int da), (4, .int (nI se_)), (5, .int (nI ro)), (6, .int co_)]) hx hb dX12_tries_76 hl (by decide) rfl (fun ls hl => ?_)
          have hPl := hP.sub (ws' := [(h0, .inr (12, mG q i_taped i_size i_sort i_what i_at i_end i_worth i_faultKind i_faultPlace i_got i_worked (nI dl) i_isPlanned i_bestDone i_bestCost)), (q 51, .inl (E.2.1 0, 512, .inl f_27)), (q 52, .inl (E.2.1 0, 512, .inl f_28)), (q 49, .inl (E.2.1 0, 100, .inl a_flights)), (q 42, .inl (E.2.1 0, 7, .inl a_dFrom)), (q 43, .inl (E.2.1 0, 7, .inl a_dTo)), (q 44, .inl (E.2.1 0, 7, .inl a_dDays)), (q 45, .inl (E.2.1 0, 7, .inl a_dFirst)), (q 46, .inl (E.2.1 0, 7, .inl a_dLast))]) [0, 1, 2, 3, 4, 5, 6, 7, 8] rfl
          have hDl := hD.sub (ws' := [(h0, .inr (12, mG q i_taped i_size i_sort i_what i_at i_end i_worth i_faultKind i_faultPlace i_got i_worked (nI dl) i_isPlanned i_bestDone i_bestCost)), (q 51, .inl (E.2.1 0, 512, .inl f_27)), (q 52, .inl (E.2.1 0, 512, .inl f_28)), (q 49, .inl (E.2.1 0, 100, .inl a_flights)), (q 42, .inl (E.2.1 0, 7, .inl a_dFrom)), (q 43, .inl (E.2.1 0, 7, .inl a_dTo)), (q 44, .inl (E.2.1 0, 7, .inl a_dDays)), (q 45, .inl (E.2.1 0, 7, .inl a_dFirst)), (q 46, .inl (E.2.1 0, 7, .inl a_dLast))]) [0, 1, 2, 3, 4, 5, 6, 7, 8] (by decide) rfl
          refine lm_tries1 E h0 q i_taped i_size i_sort i_what i_at i_end i_worth i_faultKind i_faultPlace i_got i_worked i_isPlanned i_bestDone i_bestCost dl cr po se_ ro da co_ a_flights a_dFrom a_dTo a_dDays a_dFirst a_dLast hx hb hml hown hts hkn hst hA (by omega) (by omega) (by omega) (by omega) hbc hro hI_dFrom hI_dTo (fun n_30 n_31 H locs ls hI_order hP hD hS hl => ?_) 9 0 f_27 f_28 _ _ _ (by omega) (by omega) hI_29 hPl hDl hS (lv_sub hl [2, 3, 4, 5, 6, 7, 8, 0] rfl)
          have hP : va_P E.1 vwCl [(h0, .inr (12, mG q i_taped i_size i_sort i_what i_at i_end i_worth i_faultKind i_faultPlace i_got i_worked (nI dl) i_isPlanned i_bestDone i_bestCost)), (q 51, .inl (E.2.1 0, 512, .inl n_30)), (q 52, .inl (E.2.1 0, 512, .inl n_31)), (q 49, .inl (E.2.1 0, 100, .inl a_flights)), (q 42, .inl (E.2.1 0, 7, .inl a_dFrom)), (q 43, .inl (E.2.1 0, 7, .inl a_dTo)), (q 44, .inl (E.2.1 0, 7, .inl a_dDays)), (q 45, .inl (E.2.1 0, 7, .inl a_dFirst)), (q 46, .inl (E.2.1 0, 7, .inl a_dLast))] H := hP
          have hD : va_D A [(h0, .inr (12, mG q i_taped i_size i_sort i_what i_at i_end i_worth i_faultKind i_faultPlace i_got i_worked (nI dl) i_isPlanned i_bestDone i_bestCost)), (q 51, .inl (E.2.1 0, 512, .inl n_30)), (q 52, .inl (E.2.1 0, 512, .inl n_31)), (q 49, .inl (E.2.1 0, 100, .inl a_flights)), (q 42, .inl (E.2.1 0, 7, .inl a_dFrom)), (q 43, .inl (E.2.1 0, 7, .inl a_dTo)), (q 44, .inl (E.2.1 0, 7, .inl a_dDays)), (q 45, .inl (E.2.1 0, 7, .inl a_dFirst)), (q 46, .inl (E.2.1 0, 7, .inl a_dLast))] := hD
          have hP9 := hP.sub (ws' := [(h0, .inr (12, mG q i_taped i_size i_sort i_what i_at i_end i_worth i_faultKind i_faultPlace i_got i_worked (nI dl) i_isPlanned i_bestDone i_bestCost)), (q 51, .inl (E.2.1 0, 512, .inl n_30)), (q 52, .inl (E.2.1 0, 512, .inl n_31)), (q 49, .inl (E.2.1 0, 100, .inl a_flights)), (q 42, .inl (E.2.1 0, 7, .inl a_dFrom)), (q 43, .inl (E.2.1 0, 7, .inl a_dTo)), (q 44, .inl (E.2.1 0, 7, .inl a_dDays)), (q 45, .inl (E.2.1 0, 7, .inl a_dFirst)), (q 46, .inl (E.2.1 0, 7, .inl a_dLast))]) [0, 1, 2, 3, 4, 5, 6, 7, 8] rfl
          have hD9 := hD.sub (ws' := [(h0, .inr (12, mG q i_taped i_size i_sort i_what i_at i_end i_worth i_faultKind i_faultPlace i_got i_worked (nI dl) i_isPlanned i_bestDone i_bestCost)), (q 51, .inl (E.2.1 0, 512, .inl n_30)), (q 52, .inl (E.2.1 0, 512, .inl n_31)), (q 49, .inl (E.2.1 0, 100, .inl a_flights)), (q 42, .inl (E.2.1 0, 7, .inl a_dFrom)), (q 43, .inl (E.2.1 0, 7, .inl a_dTo)), (q 44, .inl (E.2.1 0, 7, .inl a_dDays)), (q 45, .inl (E.2.1 0, 7, .inl a_dFirst)), (q 46, .inl (E.2.1 0, 7, .inl a_dLast))]) [0, 1, 2, 3, 4, 5, 6, 7, 8] (by decide) rfl
          exact W.vret hx hb hr (fun t ht hW => ⟨⟨(n_30, n_31), rfl, trivial, hI_order, by rw [ht]; exact hP9, hD9⟩, hS.F ht⟩) hS.2.2 dX12_tries_246
set_option maxHeartbeats 4000000 in
set_option maxRecDepth 100000 in
theorem lm_tries0 {p : Program} {l : Launch} {e : Env} {s : State} {m : MethodId} {args : Array Value} {below : List Frame} {meth : Method} {c : Code} {Q : State → Prop} {A : Nat → Prop} (E : vE) (h0 : Nat) (q : Nat → Nat) (i_taped : Int32) (i_size : Int32) (i_sort : Int32) (i_what : Int32) (i_at : Int32) (i_end : Int32) (i_worth : Int32) (i_faultKind : Int32) (i_faultPlace : Int32) (i_got : Int32) (i_worked : Int32) (i_isPlanned : Int32) (i_bestDone : Int32) (i_bestCost : Int32) (dl : Nat) (cr : Nat) (po : Nat) (se_ : Nat) (ro : Nat) (da : Int32) (co_ : Int32) (a_flights : Nat → Int32) (a_dFrom : Nat → Int32) (a_dTo : Nat → Int32) (a_dDays : Nat → Int32) (a_dFirst : Nat → Int32) (a_dLast : Nat → Int32) (hx : p.tables.exec = Jvm.exec) (hb : c.code = cX12_tries) (hml : c.maxLocals = 11) (hown : s.vm.findClass RX12 = some m.cls) (hts : ∀ w ∈ wsX12_tries, w.before args s = true) (hkn : kn E s) (hst : st E A s s.heap) (hA : ∀ q : Nat, s.heap.size ≤ q → A q) (hcr : cr < 4) (hpo : po ≤ 9) (hse : se_ < 128) (hdl : dl ≤ 7) (hbc : bc7 se_ = 0) (hro : dg ro 0) (hI_dFrom : ∀ k : Nat, k < 7 → inR (a_dFrom k) 0 9 = true) (hI_dTo : ∀ k : Nat, k < 7 → inR (a_dTo k) 0 9 = true) (kk : ∀ (a_least : Nat → Int32) (a_order : Nat → Int32) (H : Heap) (locs : List Loc) (ls : Array Slot), (∀ k : Nat, k < 512 → digOK (a_order k)) → va_P E.1 vwCl [(h0, .inr (12, mG q i_taped i_size i_sort i_what i_at i_end i_worth i_faultKind i_faultPlace i_got i_worked (nI dl) i_isPlanned i_bestDone i_bestCost)), (q 51, .inl (E.2.1 0, 512, .inl a_least)), (q 52, .inl (E.2.1 0, 512, .inl a_order)), (q 49, .inl (E.2.1 0, 100, .inl a_flights)), (q 42, .inl (E.2.1 0, 7, .inl a_dFrom)), (q 43, .inl (E.2.1 0, 7, .inl a_dTo)), (q 44, .inl (E.2.1 0, 7, .inl a_dDays)), (q 45, .inl (E.2.1 0, 7, .inl a_dFirst)), (q 46, .inl (E.2.1 0, 7, .inl a_dLast))] H → va_D A [(h0, .inr (12, mG q i_taped i_size i_sort i_what i_at i_end i_worth i_faultKind i_faultPlace i_got i_worked (nI dl) i_isPlanned i_bestDone i_bestCost)), (q 51, .inl (E.2.1 0, 512, .inl a_least)), (q 52, .inl (E.2.1 0, 512, .inl a_order)), (q 49, .inl (E.2.1 0, 100, .inl a_flights)), (q 42, .inl (E.2.1 0, 7, .inl a_dFrom)), (q 43, .inl (E.2.1 0, 7, .inl a_dTo)), (q 44, .inl (E.2.1 0, 7, .inl a_dDays)), (q 45, .inl (E.2.1 0, 7, .inl a_dFirst)), (q 46, .inl (E.2.1 0, 7, .inl a_dLast))] → va_S A s.heap H locs → lv_has ls 11 [(0, .ref h0)] → W p l e ({ frames := 7, cells := 0, slots := 0, locals := 210 }) s m args below meth c H locs 0 0 Q (F0 m 246 ls [])) : ∀ (n0 : Nat) (k : Nat) (a_least : Nat → Int32) (a_order : Nat → Int32) (H : Heap) (locs : List Loc) (ls : Array Slot), 8 - k < n0 → (k ≤ 7) → (∀ k : Nat, k < 512 → digOK (a_order k)) → va_P E.1 vwCl [(h0, .inr (12, mG q i_taped i_size i_sort i_what i_at i_end i_worth i_faultKind i_faultPlace i_got i_worked (nI dl) i_isPlanned i_bestDone i_bestCost)), (q 51, .inl (E.2.1 0, 512, .inl a_least)), (q 52, .inl (E.2.1 0, 512, .inl a_order)), (q 49, .inl (E.2.1 0, 100, .inl a_flights)), (q 42, .inl (E.2.1 0, 7, .inl a_dFrom)), (q 43, .inl (E.2.1 0, 7, .inl a_dTo)), (q 44, .inl (E.2.1 0, 7, .inl a_dDays)), (q 45, .inl (E.2.1 0, 7, .inl a_dFirst)), (q 46, .inl (E.2.1 0, 7, .inl a_dLast))] H → va_D A [(h0, .inr (12, mG q i_taped i_size i_sort i_what i_at i_end i_worth i_faultKind i_faultPlace i_got i_worked (nI dl) i_isPlanned i_bestDone i_bestCost)), (q 51, .inl (E.2.1 0, 512, .inl a_least)), (q 52, .inl (E.2.1 0, 512, .inl a_order)), (q 49, .inl (E.2.1 0, 100, .inl a_flights)), (q 42, .inl (E.2.1 0, 7, .inl a_dFrom)), (q 43, .inl (E.2.1 0, 7, .inl a_dTo)), (q 44, .inl (E.2.1 0, 7, .inl a_dDays)), (q 45, .inl (E.2.1 0, 7, .inl a_dFirst)), (q 46, .inl (E.2.1 0, 7, .inl a_dLast))] → va_S A s.heap H locs → lv_has ls 11 [(0, .ref h0), (1, .int (nI cr)), (2, .int (nI po)), (3, .int da), (4, .int (nI se_)), (5, .int (nI ro)), (6, .int co_), (8, .int (nI k))] → W p l e ({ frames := 7, cells := 0, slots := 0, locals := 210 }) s m args below meth c H locs 0 0 Q (F0 m 78 ls []) := by
  have hK := hkn.1
  have hAO := hkn.2.2.1
  have fl106 := hts (.fieldLink RX12 106 "BoatsHomeModel" "dFrom" "[I") (by first | exact List.mem_of_getElem? (i := 5) rfl | decide +kernel)
  have fl109 := hts (.fieldLink RX12 109 "BoatsHomeModel" "dTo" "[I") (by first | exact List.mem_of_getElem? (i := 8) rfl | decide +kernel)
  have fl112 := hts (.fieldLink RX12 112 "BoatsHomeModel" "dDays" "[I") (by first | exact List.mem_of_getElem? (i := 9) rfl | decide +kernel)
  have fl115 := hts (.fieldLink RX12 115 "BoatsHomeModel" "dFirst" "[I") (by first | exact List.mem_of_getElem? (i := 6) rfl | decide +kernel)
  have fl118 := hts (.fieldLink RX12 118 "BoatsHomeModel" "dLast" "[I") (by first | exact List.mem_of_getElem? (i := 7) rfl | decide +kernel)
  have fl127 := hts (.fieldLink RX12 127 "BoatsHomeModel" "flights" "[I") (by first | exact List.mem_of_getElem? (i := 4) rfl | decide +kernel)
  have fl130 := hts (.fieldLink RX12 130 "BoatsHomeModel" "least" "[I") (by first | exact List.mem_of_getElem? (i := 1) rfl | decide +kernel)
  have fl133 := hts (.fieldLink RX12 133 "BoatsHomeModel" "order" "[I") (by first | exact List.mem_of_getElem? (i := 2) rfl | decide +kernel)
  have fl289 := hts (.fieldLink RX12 289 "BoatsHomeModel" "deliveries" "I") (by first | exact List.mem_of_getElem? (i := 3) rfl | decide +kernel)
  have inX12 : ∀ w ∈ u_ws RX12 TX12 59, w ∈ wsX12_tries := by first | exact fun w h9 => (List.mem_cons_of_mem _ (List.mem_append_right _ h9)) | decide +kernel
  intro n0
  induction n0 with
  | zero =>
    intro k a_least a_order H locs ls hn0
    exact absurd hn0 (Nat.not_lt_zero _)
  | succ n0 ih =>
    intro k a_least a_order H locs ls hn0 hk hI_order hP hD hS hl
    refine lv_iload hx hb dX12_tries_78 (lv_at hl 7 rfl) ?_
    refine lv_aload_n hx hb dX12_tries_80 rfl (lv_at hl 0 rfl) ?_
    refine va_get (D := E.1) (ci := 12) (v := .int (nI dl)) (C := RX12) (T := TX12) (N := 59) hx hb hts inX12 hown hK hP 0 rfl rfl 41 (by decide) fl289 (fun _ h9 => h9) rfl dX12_tries_81 ?_
    refine lv_icmp_ge (tgt := 246) hx hb dX12_tries_84 (by decide) (fun c_1 => ?_) (fun c_1 => ?_)
    · exact kk a_least a_order _ _ _ hI_order (hP.sub [0, 1, 2, 3, 4, 5, 6, 7, 8] rfl) (hD.sub [0, 1, 2, 3, 4, 5, 6, 7, 8] (by decide) rfl) hS (lv_sub hl [0] rfl)
    · have hlt : k < 7 := by have := lt_of_nle (by omega) c_1; omega
      refine lv_iload hx hb dX12_tries_87 (lv_at hl 4 rfl) ?_
      refine lv_iload hx hb dX12_tries_89 (lv_at hl 7 rfl) ?_
      refine lv_ishr hx hb dX12_tries_91 ?_
      refine lv_topi (fun x_2 ex_2 => ?_)
      refine lv_iconst (v := 1) hx hb dX12_tries_92 (by decide) ?_
      refine lv_iand hx hb dX12_tries_93 ?_
      refine lv_topi (fun x_3 ex_3 => ?_)
      refine lv_iconst (v := 1) hx hb dX12_tries_94 (by decide) ?_
      refine lv_icmp_eq (tgt := 240) hx hb dX12_tries_95 (by decide) (fun c_4 => ?_) (fun c_4 => ?_)
      · refine lv_iinc (v := (nI (k + 1))) (lv' := [(8, .int (nI (k + 1))), (0, .ref h0), (1, .int (nI cr)), (2, .int (nI po)), (3, .int da), (4, .int (nI se_)), (5, .int (nI ro)), (6, .int co_)]) hx hb dX12_tries_240 hl (k := 7) rfl (show nI k + 1 = nI (k + 1) from nI_1 k) (by decide) rfl (fun ls hl => ?_)
        refine lv_goto (tgt := 78) hx hb dX12_tries_243 (by decide) ?_
        exact ih (k + 1) a_least a_order _ _ _ (by omega) (by omega) hI_order (hP.sub [0, 1, 2, 3, 4, 5, 6, 7, 8] rfl) (hD.sub [0, 1, 2, 3, 4, 5, 6, 7, 8] (by decide) rfl) hS (lv_sub hl [1, 2, 3, 4, 5, 6, 7, 0] rfl)
      · refine lv_aload_n hx hb dX12_tries_98 rfl (lv_at hl 0 rfl) ?_
        refine va_get (D := E.1) (ci := 12) (v := .ref (q 49)) (C := RX12) (T := TX12) (N := 59) hx hb hts inX12 hown hK hP 0 rfl rfl 49 (by decide) fl127 (fun _ h9 => h9) rfl dX12_tries_99 ?_
        refine lv_bipush (v := 10) hx hb dX12_tries_102 (by decide) ?_
        refine lv_iload_n hx hb dX12_tries_104 rfl (lv_at hl 2 rfl) ?_
        refine lv_imul hx hb dX12_tries_105 ?_
        refine lv_topi (fun x_5 ex_5 => ?_)
        obtain rfl : x_5 = nI (10 * po) := ex_5.trans (pk_mul 10 po)
        refine lv_aload_n hx hb dX12_tries_106 rfl (lv_at hl 0 rfl) ?_
        refine va_get (D := E.1) (ci := 12) (v := .ref (q 42)) (C := RX12) (T := TX12) (N := 59) hx hb hts inX12 hown hK hP 0 rfl rfl 42 (by decide) fl106 (fun _ h9 => h9) rfl dX12_tries_107 ?_
        refine lv_iload hx hb dX12_tries_110 (lv_at hl 7 rfl) ?_
        have hi_6 : vp_in (nI k) 7 := vp_in_nI (by omega) (by decide)
        refine va_iald hx hb hK hP 4 0 rfl rfl hi_6 dX12_tries_112 ?_
        refine lv_topi (fun x_7 ex_7 => ?_)
        have hv_8 : inR x_7 0 9 = true := by rw [ex_7]; exact hI_dFrom _ (vin_cl hi_6)
        obtain ⟨w_9, hw_10, ew_11⟩ := inR_nI (n := 9) (by decide) hv_8
        subst ew_11
        refine lv_iadd hx hb dX12_tries_113 ?_
        refine lv_topi (fun x_12 ex_12 => ?_)
        obtain rfl : x_12 = nI ((10 * po) + w_9) := ex_12.trans (nI_add (10 * po) w_9)
        have hi_13 : vp_in (nI ((10 * po) + w_9)) 100 := vp_in_nI (by omega) (by decide)
        refine va_iald hx hb hK hP 3 0 rfl rfl hi_13 dX12_tries_114 ?_
        refine lv_topi (fun x_14 ex_14 => ?_)
        refine lv_iconst (v := (-1)) hx hb dX12_tries_115 (by decide) ?_
        refine lv_icmp_ne (tgt := 122) hx hb dX12_tries_116 (by decide) (fun c_15 => ?_) (fun c_15 => ?_)
        · refine lv_iload_n hx hb dX12_tries_122 rfl (lv_at hl 3 rfl) ?_
          refine lv_iload_n hx hb dX12_tries_123 rfl (lv_at hl 2 rfl) ?_
          refine lv_aload_n hx hb dX12_tries_124 rfl (lv_at hl 0 rfl) ?_
          refine va_get (D := E.1) (ci := 12) (v := .ref (q 42)) (C := RX12) (T := TX12) (N := 59) hx hb hts inX12 hown hK hP 0 rfl rfl 42 (by decide) fl106 (fun _ h9 => h9) rfl dX12_tries_125 ?_
          refine lv_iload hx hb dX12_tries_128 (lv_at hl 7 rfl) ?_
          refine va_iald hx hb hK hP 4 0 rfl rfl hi_6 dX12_tries_130 ?_
          refine lv_topi (fun x_16 ex_16 => ?_)
          obtain rfl : x_16 = nI w_9 := ex_16.trans ex_7.symm
          refine lv_icmp_ne (tgt := 138) hx hb dX12_tries_131 (by decide) (fun c_17 => ?_) (fun c_17 => ?_)
          · refine lv_iconst (v := 1) hx hb dX12_tries_138 (by decide) ?_
            refine lv_iadd hx hb dX12_tries_139 ?_
            refine lv_topi (fun x_18 ex_18 => ?_)
            refine lv_istore (lv' := [(9, .int x_18), (0, .ref h0), (1, .int (nI cr)), (2, .int (nI po)), (3, .int da), (4, .int (nI se_)), (5, .int (nI ro)), (6, .int co_), (8, .int (nI k))]) hx hb dX12_tries_140 hl (by decide) rfl (fun ls hl => ?_)
            refine lv_iload hx hb dX12_tries_142 (lv_at hl 0 rfl) ?_
            refine lv_aload_n hx hb dX12_tries_144 rfl (lv_at hl 1 rfl) ?_
            refine va_get (D := E.1) (ci := 12) (v := .ref (q 45)) (C := RX12) (T := TX12) (N := 59) hx hb hts inX12 hown hK hP 0 rfl rfl 45 (by decide) fl115 (fun _ h9 => h9) rfl dX12_tries_145 ?_
            refine lv_iload hx hb dX12_tries_148 (lv_at hl 8 rfl) ?_
            refine va_iald hx hb hK hP 7 0 rfl rfl hi_6 dX12_tries_150 ?_
            refine lv_topi (fun x_19 ex_19 => ?_)
            refine lv_icmp_le (tgt := 159) hx hb dX12_tries_151 (by decide) (fun c_20 => ?_) (fun c_20 => ?_)
            · refine lv_aload_n hx hb dX12_tries_159 rfl (lv_at hl 1 rfl) ?_
              refine va_get (D := E.1) (ci := 12) (v := .ref (q 45)) (C := RX12) (T := TX12) (N := 59) hx hb hts inX12 hown hK hP 0 rfl rfl 45 (by decide) fl115 (fun _ h9 => h9) rfl dX12_tries_160 ?_
              refine lv_iload hx hb dX12_tries_163 (lv_at hl 8 rfl) ?_
              refine va_iald hx hb hK hP 7 0 rfl rfl hi_6 dX12_tries_165 ?_
              refine lv_topi (fun x_21 ex_21 => ?_)
              refine lv_istore (lv' := [(10, .int x_21), (9, .int x_18), (0, .ref h0), (1, .int (nI cr)), (2, .int (nI po)), (3, .int da), (4, .int (nI se_)), (5, .int (nI ro)), (6, .int co_), (8, .int (nI k))]) hx hb dX12_tries_166 hl (by decide) rfl (fun ls hl => ?_)
              refine lv_iload hx hb dX12_tries_168 (lv_at hl 0 rfl) ?_
              refine lv_aload_n hx hb dX12_tries_170 rfl (lv_at hl 2 rfl) ?_
              refine va_get (D := E.1) (ci := 12) (v := .ref (q 46)) (C := RX12) (T := TX12) (N := 59) hx hb hts inX12 hown hK hP 0 rfl rfl 46 (by decide) fl118 (fun _ h9 => h9) rfl dX12_tries_171 ?_
              refine lv_iload hx hb dX12_tries_174 (lv_at hl 9 rfl) ?_
              refine va_iald hx hb hK hP 8 0 rfl rfl hi_6 dX12_tries_176 ?_
              refine lv_topi (fun x_22 ex_22 => ?_)
              refine lv_icmp_le (tgt := 183) hx hb dX12_tries_177 (by decide) (fun c_23 => ?_) (fun c_23 => ?_)
              · refine lv_aload_n hx hb dX12_tries_183 rfl (lv_at hl 2 rfl) ?_
                refine lv_iload_n hx hb dX12_tries_184 rfl (lv_at hl 3 rfl) ?_
                refine lv_aload_n hx hb dX12_tries_185 rfl (lv_at hl 2 rfl) ?_
                refine va_get (D := E.1) (ci := 12) (v := .ref (q 43)) (C := RX12) (T := TX12) (N := 59) hx hb hts inX12 hown hK hP 0 rfl rfl 43 (by decide) fl109 (fun _ h9 => h9) rfl dX12_tries_186 ?_
                refine lv_iload hx hb dX12_tries_189 (lv_at hl 9 rfl) ?_
                refine va_iald hx hb hK hP 5 0 rfl rfl hi_6 dX12_tries_191 ?_
                refine lv_topi (fun x_24 ex_24 => ?_)
                have hv_25 : inR x_24 0 9 = true := by rw [ex_24]; exact hI_dTo _ (vin_cl hi_6)
                obtain ⟨w_26, hw_27, ew_28⟩ := inR_nI (n := 9) (by decide) hv_25
                subst ew_28
                refine lv_iload hx hb dX12_tries_192 (lv_at hl 0 rfl) ?_
                refine lv_aload_n hx hb dX12_tries_194 rfl (lv_at hl 2 rfl) ?_
                refine va_get (D := E.1) (ci := 12) (v := .ref (q 44)) (C := RX12) (T := TX12) (N := 59) hx hb hts inX12 hown hK hP 0 rfl rfl 44 (by decide) fl112 (fun _ h9 => h9) rfl dX12_tries_195 ?_
                refine lv_iload hx hb dX12_tries_198 (lv_at hl 9 rfl) ?_
                refine va_iald hx hb hK hP 6 0 rfl rfl hi_6 dX12_tries_200 ?_
                refine lv_topi (fun x_29 ex_29 => ?_)
                refine lv_iadd hx hb dX12_tries_201 ?_
                refine lv_topi (fun x_30 ex_30 => ?_)
                refine lv_iload hx hb dX12_tries_202 (lv_at hl 6 rfl) ?_
                refine lv_iconst (v := 1) hx hb dX12_tries_204 (by decide) ?_
                refine lv_iload hx hb dX12_tries_205 (lv_at hl 9 rfl) ?_
                refine lv_ishl hx hb dX12_tries_207 ?_
                refine lv_topi (fun x_31 ex_31 => ?_)
                refine lv_ior hx hb dX12_tries_208 ?_
                refine lv_topi (fun x_32 ex_32 => ?_)
                obtain ⟨w_33, hw_34, hw_34b, hw_34e⟩ : ∃ w, w < 128 ∧ bc7 w = 0 + 1 ∧ x_32 = nI w := by rw [ex_32, ex_31]; exact tr_bit hse hlt hbc (by rw [ex_3, ex_2] at c_4; exact c_4)
                subst hw_34e
                refine lv_bipush (v := 8) hx hb dX12_tries_209 (by decide) ?_
                refine lv_iload hx hb dX12_tries_211 (lv_at hl 7 rfl) ?_
                refine lv_imul hx hb dX12_tries_213 ?_
                refine lv_topi (fun x_35 ex_35 => ?_)
                obtain rfl : x_35 = nI (8 * ro) := ex_35.trans (pk_mul 8 ro)
                refine lv_iload hx hb dX12_tries_214 (lv_at hl 9 rfl) ?_
                refine lv_iadd hx hb dX12_tries_216 ?_
                refine lv_topi (fun x_36 ex_36 => ?_)
                obtain rfl : x_36 = nI ((8 * ro) + k) := ex_36.trans (nI_add (8 * ro) k)
                refine lv_iload hx hb dX12_tries_217 (lv_at hl 8 rfl) ?_
                refine lv_aload_n hx hb dX12_tries_219 rfl (lv_at hl 2 rfl) ?_
                refine va_get (D := E.1) (ci := 12) (v := .ref (q 49)) (C := RX12) (T := TX12) (N := 59) hx hb hts inX12 hown hK hP 0 rfl rfl 49 (by decide) fl127 (fun _ h9 => h9) rfl dX12_tries_220 ?_
                refine lv_bipush (v := 10) hx hb dX12_tries_223 (by decide) ?_
                refine lv_iload_n hx hb dX12_tries_225 rfl (lv_at hl 4 rfl) ?_
                refine lv_imul hx hb dX12_tries_226 ?_
                refine lv_topi (fun x_37 ex_37 => ?_)
                obtain rfl : x_37 = nI (10 * po) := ex_37.trans (pk_mul 10 po)
                refine lv_aload_n hx hb dX12_tries_227 rfl (lv_at hl 2 rfl) ?_
                refine va_get (D := E.1) (ci := 12) (v := .ref (q 42)) (C := RX12) (T := TX12) (N := 59) hx hb hts inX12 hown hK hP 0 rfl rfl 42 (by decide) fl106 (fun _ h9 => h9) rfl dX12_tries_228 ?_
                refine lv_iload hx hb dX12_tries_231 (lv_at hl 9 rfl) ?_
                refine va_iald hx hb hK hP 4 0 rfl rfl hi_6 dX12_tries_233 ?_
                refine lv_topi (fun x_38 ex_38 => ?_)
                obtain rfl : x_38 = nI w_9 := ex_38.trans ex_7.symm
                refine lv_iadd hx hb dX12_tries_234 ?_
                refine lv_topi (fun x_39 ex_39 => ?_)
                obtain rfl : x_39 = nI ((10 * po) + w_9) := ex_39.trans (nI_add (10 * po) w_9)
                refine va_iald hx hb hK hP 3 0 rfl rfl hi_13 dX12_tries_235 ?_
                refine lv_topi (fun x_40 ex_40 => ?_)
                refine lv_iadd hx hb dX12_tries_236 ?_
                refine lv_topi (fun x_41 ex_41 => ?_)
                have hPc := hP.sub (ws' := [(h0, .inr (12, mG q i_taped i_size i_sort i_what i_at i_end i_worth i_faultKind i_faultPlace i_got i_worked (nI dl) i_isPlanned i_bestDone i_bestCost)), (q 51, .inl (E.2.1 0, 512, .inl a_least)), (q 52, .inl (E.2.1 0, 512, .inl a_order)), (q 49, .inl (E.2.1 0, 100, .inl a_flights)), (q 42, .inl (E.2.1 0, 7, .inl a_dFrom)), (q 43, .inl (E.2.1 0, 7, .inl a_dTo)), (q 44, .inl (E.2.1 0, 7, .inl a_dDays)), (q 45, .inl (E.2.1 0, 7, .inl a_dFirst)), (q 46, .inl (E.2.1 0, 7, .inl a_dLast))]) [0, 1, 2, 3, 4, 5, 6, 7, 8] rfl
                have hDc := hD.sub (ws' := [(h0, .inr (12, mG q i_taped i_size i_sort i_what i_at i_end i_worth i_faultKind i_faultPlace i_got i_worked (nI dl) i_isPlanned i_bestDone i_bestCost)), (q 51, .inl (E.2.1 0, 512, .inl a_least)), (q 52, .inl (E.2.1 0, 512, .inl a_order)), (q 49, .inl (E.2.1 0, 100, .inl a_flights)), (q 42, .inl (E.2.1 0, 7, .inl a_dFrom)), (q 43, .inl (E.2.1 0, 7, .inl a_dTo)), (q 44, .inl (E.2.1 0, 7, .inl a_dDays)), (q 45, .inl (E.2.1 0, 7, .inl a_dFirst)), (q 46, .inl (E.2.1 0, 7, .inl a_dLast))]) [0, 1, 2, 3, 4, 5, 6, 7, 8] (by decide) rfl
                have hFc := va_free (wc := [(h0, .inr (12, mG q i_taped i_size i_sort i_what i_at i_end i_worth i_faultKind i_faultPlace i_got i_worked (nI dl) i_isPlanned i_bestDone i_bestCost)), (q 51, .inl (E.2.1 0, 512, .inl a_least)), (q 52, .inl (E.2.1 0, 512, .inl a_order)), (q 49, .inl (E.2.1 0, 100, .inl a_flights)), (q 42, .inl (E.2.1 0, 7, .inl a_dFrom)), (q 43, .inl (E.2.1 0, 7, .inl a_dTo)), (q 44, .inl (E.2.1 0, 7, .inl a_dDays)), (q 45, .inl (E.2.1 0, 7, .inl a_dFirst)), (q 46, .inl (E.2.1 0, 7, .inl a_dLast))]) hD hS hA [0, 1, 2, 3, 4, 5, 6, 7, 8] rfl
                refine va_callv (va_runV (As := [.int (nI cr), .int (nI w_26), .int x_30, .int (nI w_33), .int (nI ((8 * ro) + k)), .int x_41]) (rest := []) ⟨hx, hb, hml, hown, hts⟩ (c_X12_tries1 l E h0 q i_taped i_size i_sort i_what i_at i_end i_worth i_faultKind i_faultPlace i_got i_worked i_isPlanned i_bestDone i_bestCost dl cr w_26 w_33 ((8 * ro) + k) a_least a_order a_flights a_dFrom a_dTo a_dDays a_dFirst a_dLast x_30 x_41 H.size hcr (by omega) hw_34 hdl hw_34b (dg_step hro hlt) hI_order hI_dFrom hI_dTo) (cwV 6 hts gX12_tries_X12_tries rfl rfl rfl hdV_X12_tries ⟨Nat.le_of_ble_eq_true rfl, Nat.le_of_ble_eq_true rfl⟩) ⟨pcW_blind, va_recv hK hPc (ci := 12) (q0 := 0) rfl rfl, (pcW_pre hPc hkn hDc hst hS hFc)⟩ rfl rfl hl.1 rfl (lv_room (Nat.le_of_ble_eq_true rfl)) dX12_tries_237 ⟨Nat.le_of_ble_eq_true rfl, Nat.le_of_ble_eq_true rfl⟩) hS (fun q _ h => hFc q h) hFc (fun u t H1 locs ht hvm hw_43 hB hz1 hk1 hS => ?_)
                obtain ⟨u_44, u_45⟩ := u
                obtain ⟨hf_46, hP1, hD1⟩ := hB
                rw [ht] at hP1
                try dsimp only at hw_43
                obtain ⟨hP, hD⟩ := va_join (wr := []) (w1 := [(h0, .inr (12, mG q i_taped i_size i_sort i_what i_at i_end i_worth i_faultKind i_faultPlace i_got i_worked (nI dl) i_isPlanned i_bestDone i_bestCost)), (q 51, .inl (E.2.1 0, 512, .inl u_44)), (q 52, .inl (E.2.1 0, 512, .inl u_45)), (q 49, .inl (E.2.1 0, 100, .inl a_flights)), (q 42, .inl (E.2.1 0, 7, .inl a_dFrom)), (q 43, .inl (E.2.1 0, 7, .inl a_dTo)), (q 44, .inl (E.2.1 0, 7, .inl a_dDays)), (q 45, .inl (E.2.1 0, 7, .inl a_dFirst)), (q 46, .inl (E.2.1 0, 7, .inl a_dLast))]) hP hD [0, 1, 2, 3, 4, 5, 6, 7, 8] [] rfl rfl (by decide) (by decide) hk1 hFc hP1 hD1
                generalize H1 = H at hP hS ⊢
                have hP : va_P E.1 vwCl [(h0, .inr (12, mG q i_taped i_size i_sort i_what i_at i_end i_worth i_faultKind i_faultPlace i_got i_worked (nI dl) i_isPlanned i_bestDone i_bestCost)), (q 51, .inl (E.2.1 0, 512, .inl u_44)), (q 52, .inl (E.2.1 0, 512, .inl u_45)), (q 49, .inl (E.2.1 0, 100, .inl a_flights)), (q 42, .inl (E.2.1 0, 7, .inl a_dFrom)), (q 43, .inl (E.2.1 0, 7, .inl a_dTo)), (q 44, .inl (E.2.1 0, 7, .inl a_dDays)), (q 45, .inl (E.2.1 0, 7, .inl a_dFirst)), (q 46, .inl (E.2.1 0, 7, .inl a_dLast))] H := hP
                have hD : va_D A [(h0, .inr (12, mG q i_taped i_size i_sort i_what i_at i_end i_worth i_faultKind i_faultPlace i_got i_worked (nI dl) i_isPlanned i_bestDone i_bestCost)), (q 51, .inl (E.2.1 0, 512, .inl u_44)), (q 52, .inl (E.2.1 0, 512, .inl u_45)), (q 49, .inl (E.2.1 0, 100, .inl a_flights)), (q 42, .inl (E.2.1 0, 7, .inl a_dFrom)), (q 43, .inl (E.2.1 0, 7, .inl a_dTo)), (q 44, .inl (E.2.1 0, 7, .inl a_dDays)), (q 45, .inl (E.2.1 0, 7, .inl a_dFirst)), (q 46, .inl (E.2.1 0, 7, .inl a_dLast))] := hD
                refine lv_iinc (v := (nI (k + 1))) (lv' := [(8, .int (nI (k + 1))), (10, .int x_21), (9, .int x_18), (0, .ref h0), (1, .int (nI cr)), (2, .int (nI po)), (3, .int da), (4, .int (nI se_)), (5, .int (nI ro)), (6, .int co_)]) hx hb dX12_tries_240 hl (k := 9) rfl (show nI k + 1 = nI (k + 1) from nI_1 k) (by decide) rfl (fun ls hl => ?_)
                refine lv_goto (tgt := 78) hx hb dX12_tries_243 (by decide) ?_
                exact ih (k + 1) u_44 u_45 _ _ _ (by omega) (by omega) hf_46 (hP.sub [0, 1, 2, 3, 4, 5, 6, 7, 8] rfl) (hD.sub [0, 1, 2, 3, 4, 5, 6, 7, 8] (by decide) rfl) hS (lv_sub hl [3, 4, 5, 6, 7, 8, 9, 0] rfl)
              · refine lv_goto (tgt := 240) hx hb dX12_tries_180 (by decide) ?_
                refine lv_iinc (v := (nI (k + 1))) (lv' := [(8, .int (nI (k + 1))), (10, .int x_21), (9, .int x_18), (0, .ref h0), (1, .int (nI cr)), (2, .int (nI po)), (3, .int da), (4, .int (nI se_)), (5, .int (nI ro)), (6, .int co_)]) hx hb dX12_tries_240 hl (k := 9) rfl (show nI k + 1 = nI (k + 1) from nI_1 k) (by decide) rfl (fun ls hl => ?_)
                refine lv_goto (tgt := 78) hx hb dX12_tries_243 (by decide) ?_
                exact ih (k + 1) a_least a_order _ _ _ (by omega) (by omega) hI_order (hP.sub [0, 1, 2, 3, 4, 5, 6, 7, 8] rfl) (hD.sub [0, 1, 2, 3, 4, 5, 6, 7, 8] (by decide) rfl) hS (lv_sub hl [3, 4, 5, 6, 7, 8, 9, 0] rfl)
            · refine lv_iload hx hb dX12_tries_154 (lv_at hl 0 rfl) ?_
              refine lv_goto (tgt := 166) hx hb dX12_tries_156 (by decide) ?_
              refine lv_istore (lv' := [(10, .int x_18), (9, .int x_18), (0, .ref h0), (1, .int (nI cr)), (2, .int (nI po)), (3, .int da), (4, .int (nI se_)), (5, .int (nI ro)), (6, .int co_), (8, .int (nI k))]) hx hb dX12_tries_166 hl (by decide) rfl (fun ls hl => ?_)
              refine lv_iload hx hb dX12_tries_168 (lv_at hl 0 rfl) ?_
              refine lv_aload_n hx hb dX12_tries_170 rfl (lv_at hl 2 rfl) ?_
              refine va_get (D := E.1) (ci := 12) (v := .ref (q 46)) (C := RX12) (T := TX12) (N := 59) hx hb hts inX12 hown hK hP 0 rfl rfl 46 (by decide) fl118 (fun _ h9 => h9) rfl dX12_tries_171 ?_
              refine lv_iload hx hb dX12_tries_174 (lv_at hl 9 rfl) ?_
              refine va_iald hx hb hK hP 8 0 rfl rfl hi_6 dX12_tries_176 ?_
              refine lv_topi (fun x_47 ex_47 => ?_)
              refine lv_icmp_le (tgt := 183) hx hb dX12_tries_177 (by decide) (fun c_48 => ?_) (fun c_48 => ?_)
              · refine lv_aload_n hx hb dX12_tries_183 rfl (lv_at hl 2 rfl) ?_
                refine lv_iload_n hx hb dX12_tries_184 rfl (lv_at hl 3 rfl) ?_
                refine lv_aload_n hx hb dX12_tries_185 rfl (lv_at hl 2 rfl) ?_
                refine va_get (D := E.1) (ci := 12) (v := .ref (q 43)) (C := RX12) (T := TX12) (N := 59) hx hb hts inX12 hown hK hP 0 rfl rfl 43 (by decide) fl109 (fun _ h9 => h9) rfl dX12_tries_186 ?_
                refine lv_iload hx hb dX12_tries_189 (lv_at hl 9 rfl) ?_
                refine va_iald hx hb hK hP 5 0 rfl rfl hi_6 dX12_tries_191 ?_
                refine lv_topi (fun x_49 ex_49 => ?_)
                have hv_50 : inR x_49 0 9 = true := by rw [ex_49]; exact hI_dTo _ (vin_cl hi_6)
                obtain ⟨w_51, hw_52, ew_53⟩ := inR_nI (n := 9) (by decide) hv_50
                subst ew_53
                refine lv_iload hx hb dX12_tries_192 (lv_at hl 0 rfl) ?_
                refine lv_aload_n hx hb dX12_tries_194 rfl (lv_at hl 2 rfl) ?_
                refine va_get (D := E.1) (ci := 12) (v := .ref (q 44)) (C := RX12) (T := TX12) (N := 59) hx hb hts inX12 hown hK hP 0 rfl rfl 44 (by decide) fl112 (fun _ h9 => h9) rfl dX12_tries_195 ?_
                refine lv_iload hx hb dX12_tries_198 (lv_at hl 9 rfl) ?_
                refine va_iald hx hb hK hP 6 0 rfl rfl hi_6 dX12_tries_200 ?_
                refine lv_topi (fun x_54 ex_54 => ?_)
                refine lv_iadd hx hb dX12_tries_201 ?_
                refine lv_topi (fun x_55 ex_55 => ?_)
                refine lv_iload hx hb dX12_tries_202 (lv_at hl 6 rfl) ?_
                refine lv_iconst (v := 1) hx hb dX12_tries_204 (by decide) ?_
                refine lv_iload hx hb dX12_tries_205 (lv_at hl 9 rfl) ?_
                refine lv_ishl hx hb dX12_tries_207 ?_
                refine lv_topi (fun x_56 ex_56 => ?_)
                refine lv_ior hx hb dX12_tries_208 ?_
                refine lv_topi (fun x_57 ex_57 => ?_)
                obtain ⟨w_58, hw_59, hw_59b, hw_59e⟩ : ∃ w, w < 128 ∧ bc7 w = 0 + 1 ∧ x_57 = nI w := by rw [ex_57, ex_56]; exact tr_bit hse hlt hbc (by rw [ex_3, ex_2] at c_4; exact c_4)
                subst hw_59e
                refine lv_bipush (v := 8) hx hb dX12_tries_209 (by decide) ?_
                refine lv_iload hx hb dX12_tries_211 (lv_at hl 7 rfl) ?_
                refine lv_imul hx hb dX12_tries_213 ?_
                refine lv_topi (fun x_60 ex_60 => ?_)
                obtain rfl : x_60 = nI (8 * ro) := ex_60.trans (pk_mul 8 ro)
                refine lv_iload hx hb dX12_tries_214 (lv_at hl 9 rfl) ?_
                refine lv_iadd hx hb dX12_tries_216 ?_
                refine lv_topi (fun x_61 ex_61 => ?_)
                obtain rfl : x_61 = nI ((8 * ro) + k) := ex_61.trans (nI_add (8 * ro) k)
                refine lv_iload hx hb dX12_tries_217 (lv_at hl 8 rfl) ?_
                refine lv_aload_n hx hb dX12_tries_219 rfl (lv_at hl 2 rfl) ?_
                refine va_get (D := E.1) (ci := 12) (v := .ref (q 49)) (C := RX12) (T := TX12) (N := 59) hx hb hts inX12 hown hK hP 0 rfl rfl 49 (by decide) fl127 (fun _ h9 => h9) rfl dX12_tries_220 ?_
                refine lv_bipush (v := 10) hx hb dX12_tries_223 (by decide) ?_
                refine lv_iload_n hx hb dX12_tries_225 rfl (lv_at hl 4 rfl) ?_
                refine lv_imul hx hb dX12_tries_226 ?_
                refine lv_topi (fun x_62 ex_62 => ?_)
                obtain rfl : x_62 = nI (10 * po) := ex_62.trans (pk_mul 10 po)
                refine lv_aload_n hx hb dX12_tries_227 rfl (lv_at hl 2 rfl) ?_
                refine va_get (D := E.1) (ci := 12) (v := .ref (q 42)) (C := RX12) (T := TX12) (N := 59) hx hb hts inX12 hown hK hP 0 rfl rfl 42 (by decide) fl106 (fun _ h9 => h9) rfl dX12_tries_228 ?_
                refine lv_iload hx hb dX12_tries_231 (lv_at hl 9 rfl) ?_
                refine va_iald hx hb hK hP 4 0 rfl rfl hi_6 dX12_tries_233 ?_
                refine lv_topi (fun x_63 ex_63 => ?_)
                obtain rfl : x_63 = nI w_9 := ex_63.trans ex_7.symm
                refine lv_iadd hx hb dX12_tries_234 ?_
                refine lv_topi (fun x_64 ex_64 => ?_)
                obtain rfl : x_64 = nI ((10 * po) + w_9) := ex_64.trans (nI_add (10 * po) w_9)
                refine va_iald hx hb hK hP 3 0 rfl rfl hi_13 dX12_tries_235 ?_
                refine lv_topi (fun x_65 ex_65 => ?_)
                refine lv_iadd hx hb dX12_tries_236 ?_
                refine lv_topi (fun x_66 ex_66 => ?_)
                have hPc := hP.sub (ws' := [(h0, .inr (12, mG q i_taped i_size i_sort i_what i_at i_end i_worth i_faultKind i_faultPlace i_got i_worked (nI dl) i_isPlanned i_bestDone i_bestCost)), (q 51, .inl (E.2.1 0, 512, .inl a_least)), (q 52, .inl (E.2.1 0, 512, .inl a_order)), (q 49, .inl (E.2.1 0, 100, .inl a_flights)), (q 42, .inl (E.2.1 0, 7, .inl a_dFrom)), (q 43, .inl (E.2.1 0, 7, .inl a_dTo)), (q 44, .inl (E.2.1 0, 7, .inl a_dDays)), (q 45, .inl (E.2.1 0, 7, .inl a_dFirst)), (q 46, .inl (E.2.1 0, 7, .inl a_dLast))]) [0, 1, 2, 3, 4, 5, 6, 7, 8] rfl
                have hDc := hD.sub (ws' := [(h0, .inr (12, mG q i_taped i_size i_sort i_what i_at i_end i_worth i_faultKind i_faultPlace i_got i_worked (nI dl) i_isPlanned i_bestDone i_bestCost)), (q 51, .inl (E.2.1 0, 512, .inl a_least)), (q 52, .inl (E.2.1 0, 512, .inl a_order)), (q 49, .inl (E.2.1 0, 100, .inl a_flights)), (q 42, .inl (E.2.1 0, 7, .inl a_dFrom)), (q 43, .inl (E.2.1 0, 7, .inl a_dTo)), (q 44, .inl (E.2.1 0, 7, .inl a_dDays)), (q 45, .inl (E.2.1 0, 7, .inl a_dFirst)), (q 46, .inl (E.2.1 0, 7, .inl a_dLast))]) [0, 1, 2, 3, 4, 5, 6, 7, 8] (by decide) rfl
                have hFc := va_free (wc := [(h0, .inr (12, mG q i_taped i_size i_sort i_what i_at i_end i_worth i_faultKind i_faultPlace i_got i_worked (nI dl) i_isPlanned i_bestDone i_bestCost)), (q 51, .inl (E.2.1 0, 512, .inl a_least)), (q 52, .inl (E.2.1 0, 512, .inl a_order)), (q 49, .inl (E.2.1 0, 100, .inl a_flights)), (q 42, .inl (E.2.1 0, 7, .inl a_dFrom)), (q 43, .inl (E.2.1 0, 7, .inl a_dTo)), (q 44, .inl (E.2.1 0, 7, .inl a_dDays)), (q 45, .inl (E.2.1 0, 7, .inl a_dFirst)), (q 46, .inl (E.2.1 0, 7, .inl a_dLast))]) hD hS hA [0, 1, 2, 3, 4, 5, 6, 7, 8] rfl
                refine va_callv (va_runV (As := [.int (nI cr), .int (nI w_51), .int x_55, .int (nI w_58), .int (nI ((8 * ro) + k)), .int x_66]) (rest := []) ⟨hx, hb, hml, hown, hts⟩ (c_X12_tries1 l E h0 q i_taped i_size i_sort i_what i_at i_end i_worth i_faultKind i_faultPlace i_got i_worked i_isPlanned i_bestDone i_bestCost dl cr w_51 w_58 ((8 * ro) + k) a_least a_order a_flights a_dFrom a_dTo a_dDays a_dFirst a_dLast x_55 x_66 H.size hcr (by omega) hw_59 hdl hw_59b (dg_step hro hlt) hI_order hI_dFrom hI_dTo) (cwV 6 hts gX12_tries_X12_tries rfl rfl rfl hdV_X12_tries ⟨Nat.le_of_ble_eq_true rfl, Nat.le_of_ble_eq_true rfl⟩) ⟨pcW_blind, va_recv hK hPc (ci := 12) (q0 := 0) rfl rfl, (pcW_pre hPc hkn hDc hst hS hFc)⟩ rfl rfl hl.1 rfl (lv_room (Nat.le_of_ble_eq_true rfl)) dX12_tries_237 ⟨Nat.le_of_ble_eq_true rfl, Nat.le_of_ble_eq_true rfl⟩) hS (fun q _ h => hFc q h) hFc (fun u t H1 locs ht hvm hw_68 hB hz1 hk1 hS => ?_)
                obtain ⟨u_69, u_70⟩ := u
                obtain ⟨hf_71, hP1, hD1⟩ := hB
                rw [ht] at hP1
                try dsimp only at hw_68
                obtain ⟨hP, hD⟩ := va_join (wr := []) (w1 := [(h0, .inr (12, mG q i_taped i_size i_sort i_what i_at i_end i_worth i_faultKind i_faultPlace i_got i_worked (nI dl) i_isPlanned i_bestDone i_bestCost)), (q 51, .inl (E.2.1 0, 512, .inl u_69)), (q 52, .inl (E.2.1 0, 512, .inl u_70)), (q 49, .inl (E.2.1 0, 100, .inl a_flights)), (q 42, .inl (E.2.1 0, 7, .inl a_dFrom)), (q 43, .inl (E.2.1 0, 7, .inl a_dTo)), (q 44, .inl (E.2.1 0, 7, .inl a_dDays)), (q 45, .inl (E.2.1 0, 7, .inl a_dFirst)), (q 46, .inl (E.2.1 0, 7, .inl a_dLast))]) hP hD [0, 1, 2, 3, 4, 5, 6, 7, 8] [] rfl rfl (by decide) (by decide) hk1 hFc hP1 hD1
                generalize H1 = H at hP hS ⊢
                have hP : va_P E.1 vwCl [(h0, .inr (12, mG q i_taped i_size i_sort i_what i_at i_end i_worth i_faultKind i_faultPlace i_got i_worked (nI dl) i_isPlanned i_bestDone i_bestCost)), (q 51, .inl (E.2.1 0, 512, .inl u_69)), (q 52, .inl (E.2.1 0, 512, .inl u_70)), (q 49, .inl (E.2.1 0, 100, .inl a_flights)), (q 42, .inl (E.2.1 0, 7, .inl a_dFrom)), (q 43, .inl (E.2.1 0, 7, .inl a_dTo)), (q 44, .inl (E.2.1 0, 7, .inl a_dDays)), (q 45, .inl (E.2.1 0, 7, .inl a_dFirst)), (q 46, .inl (E.2.1 0, 7, .inl a_dLast))] H := hP
                have hD : va_D A [(h0, .inr (12, mG q i_taped i_size i_sort i_what i_at i_end i_worth i_faultKind i_faultPlace i_got i_worked (nI dl) i_isPlanned i_bestDone i_bestCost)), (q 51, .inl (E.2.1 0, 512, .inl u_69)), (q 52, .inl (E.2.1 0, 512, .inl u_70)), (q 49, .inl (E.2.1 0, 100, .inl a_flights)), (q 42, .inl (E.2.1 0, 7, .inl a_dFrom)), (q 43, .inl (E.2.1 0, 7, .inl a_dTo)), (q 44, .inl (E.2.1 0, 7, .inl a_dDays)), (q 45, .inl (E.2.1 0, 7, .inl a_dFirst)), (q 46, .inl (E.2.1 0, 7, .inl a_dLast))] := hD
                refine lv_iinc (v := (nI (k + 1))) (lv' := [(8, .int (nI (k + 1))), (10, .int x_18), (9, .int x_18), (0, .ref h0), (1, .int (nI cr)), (2, .int (nI po)), (3, .int da), (4, .int (nI se_)), (5, .int (nI ro)), (6, .int co_)]) hx hb dX12_tries_240 hl (k := 9) rfl (show nI k + 1 = nI (k + 1) from nI_1 k) (by decide) rfl (fun ls hl => ?_)
                refine lv_goto (tgt := 78) hx hb dX12_tries_243 (by decide) ?_
                exact ih (k + 1) u_69 u_70 _ _ _ (by omega) (by omega) hf_71 (hP.sub [0, 1, 2, 3, 4, 5, 6, 7, 8] rfl) (hD.sub [0, 1, 2, 3, 4, 5, 6, 7, 8] (by decide) rfl) hS (lv_sub hl [3, 4, 5, 6, 7, 8, 9, 0] rfl)
              · refine lv_goto (tgt := 240) hx hb dX12_tries_180 (by decide) ?_
                refine lv_iinc (v := (nI (k + 1))) (lv' := [(8, .int (nI (k + 1))), (10, .int x_18), (9, .int x_18), (0, .ref h0), (1, .int (nI cr)), (2, .int (nI po)), (3, .int da), (4, .int (nI se_)), (5, .int (nI ro)), (6, .int co_)]) hx hb dX12_tries_240 hl (k := 9) rfl (show nI k + 1 = nI (k + 1) from nI_1 k) (by decide) rfl (fun ls hl => ?_)
                refine lv_goto (tgt := 78) hx hb dX12_tries_243 (by decide) ?_
                exact ih (k + 1) a_least a_order _ _ _ (by omega) (by omega) hI_order (hP.sub [0, 1, 2, 3, 4, 5, 6, 7, 8] rfl) (hD.sub [0, 1, 2, 3, 4, 5, 6, 7, 8] (by decide) rfl) hS (lv_sub hl [3, 4, 5, 6, 7, 8, 9, 0] rfl)
          · refine lv_iconst (v := 0) hx hb dX12_tries_134 (by decide) ?_
            refine lv_goto (tgt := 139) hx hb dX12_tries_135 (by decide) ?_
            refine lv_iadd hx hb dX12_tries_139 ?_
            refine lv_topi (fun x_72 ex_72 => ?_)
            refine lv_istore (lv' := [(9, .int x_72), (0, .ref h0), (1, .int (nI cr)), (2, .int (nI po)), (3, .int da), (4, .int (nI se_)), (5, .int (nI ro)), (6, .int co_), (8, .int (nI k))]) hx hb dX12_tries_140 hl (by decide) rfl (fun ls hl => ?_)
            refine lv_iload hx hb dX12_tries_142 (lv_at hl 0 rfl) ?_
            refine lv_aload_n hx hb dX12_tries_144 rfl (lv_at hl 1 rfl) ?_
            refine va_get (D := E.1) (ci := 12) (v := .ref (q 45)) (C := RX12) (T := TX12) (N := 59) hx hb hts inX12 hown hK hP 0 rfl rfl 45 (by decide) fl115 (fun _ h9 => h9) rfl dX12_tries_145 ?_
            refine lv_iload hx hb dX12_tries_148 (lv_at hl 8 rfl) ?_
            refine va_iald hx hb hK hP 7 0 rfl rfl hi_6 dX12_tries_150 ?_
            refine lv_topi (fun x_73 ex_73 => ?_)
            refine lv_icmp_le (tgt := 159) hx hb dX12_tries_151 (by decide) (fun c_74 => ?_) (fun c_74 => ?_)
            · refine lv_aload_n hx hb dX12_tries_159 rfl (lv_at hl 1 rfl) ?_
              refine va_get (D := E.1) (ci := 12) (v := .ref (q 45)) (C := RX12) (T := TX12) (N := 59) hx hb hts inX12 hown hK hP 0 rfl rfl 45 (by decide) fl115 (fun _ h9 => h9) rfl dX12_tries_160 ?_
              refine lv_iload hx hb dX12_tries_163 (lv_at hl 8 rfl) ?_
              refine va_iald hx hb hK hP 7 0 rfl rfl hi_6 dX12_tries_165 ?_
              refine lv_topi (fun x_75 ex_75 => ?_)
              refine lv_istore (lv' := [(10, .int x_75), (9, .int x_72), (0, .ref h0), (1, .int (nI cr)), (2, .int (nI po)), (3, .int da), (4, .int (nI se_)), (5, .int (nI ro)), (6, .int co_), (8, .int (nI k))]) hx hb dX12_tries_166 hl (by decide) rfl (fun ls hl => ?_)
              refine lv_iload hx hb dX12_tries_168 (lv_at hl 0 rfl) ?_
              refine lv_aload_n hx hb dX12_tries_170 rfl (lv_at hl 2 rfl) ?_
              refine va_get (D := E.1) (ci := 12) (v := .ref (q 46)) (C := RX12) (T := TX12) (N := 59) hx hb hts inX12 hown hK hP 0 rfl rfl 46 (by decide) fl118 (fun _ h9 => h9) rfl dX12_tries_171 ?_
              refine lv_iload hx hb dX12_tries_174 (lv_at hl 9 rfl) ?_
              refine va_iald hx hb hK hP 8 0 rfl rfl hi_6 dX12_tries_176 ?_
              refine lv_topi (fun x_76 ex_76 => ?_)
              refine lv_icmp_le (tgt := 183) hx hb dX12_tries_177 (by decide) (fun c_77 => ?_) (fun c_77 => ?_)
              · refine lv_aload_n hx hb dX12_tries_183 rfl (lv_at hl 2 rfl) ?_
                refine lv_iload_n hx hb dX12_tries_184 rfl (lv_at hl 3 rfl) ?_
                refine lv_aload_n hx hb dX12_tries_185 rfl (lv_at hl 2 rfl) ?_
                refine va_get (D := E.1) (ci := 12) (v := .ref (q 43)) (C := RX12) (T := TX12) (N := 59) hx hb hts inX12 hown hK hP 0 rfl rfl 43 (by decide) fl109 (fun _ h9 => h9) rfl dX12_tries_186 ?_
                refine lv_iload hx hb dX12_tries_189 (lv_at hl 9 rfl) ?_
                refine va_iald hx hb hK hP 5 0 rfl rfl hi_6 dX12_tries_191 ?_
                refine lv_topi (fun x_78 ex_78 => ?_)
                have hv_79 : inR x_78 0 9 = true := by rw [ex_78]; exact hI_dTo _ (vin_cl hi_6)
                obtain ⟨w_80, hw_81, ew_82⟩ := inR_nI (n := 9) (by decide) hv_79
                subst ew_82
                refine lv_iload hx hb dX12_tries_192 (lv_at hl 0 rfl) ?_
                refine lv_aload_n hx hb dX12_tries_194 rfl (lv_at hl 2 rfl) ?_
                refine va_get (D := E.1) (ci := 12) (v := .ref (q 44)) (C := RX12) (T := TX12) (N := 59) hx hb hts inX12 hown hK hP 0 rfl rfl 44 (by decide) fl112 (fun _ h9 => h9) rfl dX12_tries_195 ?_
                refine lv_iload hx hb dX12_tries_198 (lv_at hl 9 rfl) ?_
                refine va_iald hx hb hK hP 6 0 rfl rfl hi_6 dX12_tries_200 ?_
                refine lv_topi (fun x_83 ex_83 => ?_)
                refine lv_iadd hx hb dX12_tries_201 ?_
                refine lv_topi (fun x_84 ex_84 => ?_)
                refine lv_iload hx hb dX12_tries_202 (lv_at hl 6 rfl) ?_
                refine lv_iconst (v := 1) hx hb dX12_tries_204 (by decide) ?_
                refine lv_iload hx hb dX12_tries_205 (lv_at hl 9 rfl) ?_
                refine lv_ishl hx hb dX12_tries_207 ?_
                refine lv_topi (fun x_85 ex_85 => ?_)
                refine lv_ior hx hb dX12_tries_208 ?_
                refine lv_topi (fun x_86 ex_86 => ?_)
                obtain ⟨w_87, hw_88, hw_88b, hw_88e⟩ : ∃ w, w < 128 ∧ bc7 w = 0 + 1 ∧ x_86 = nI w := by rw [ex_86, ex_85]; exact tr_bit hse hlt hbc (by rw [ex_3, ex_2] at c_4; exact c_4)
                subst hw_88e
                refine lv_bipush (v := 8) hx hb dX12_tries_209 (by decide) ?_
                refine lv_iload hx hb dX12_tries_211 (lv_at hl 7 rfl) ?_
                refine lv_imul hx hb dX12_tries_213 ?_
                refine lv_topi (fun x_89 ex_89 => ?_)
                obtain rfl : x_89 = nI (8 * ro) := ex_89.trans (pk_mul 8 ro)
                refine lv_iload hx hb dX12_tries_214 (lv_at hl 9 rfl) ?_
                refine lv_iadd hx hb dX12_tries_216 ?_
                refine lv_topi (fun x_90 ex_90 => ?_)
                obtain rfl : x_90 = nI ((8 * ro) + k) := ex_90.trans (nI_add (8 * ro) k)
                refine lv_iload hx hb dX12_tries_217 (lv_at hl 8 rfl) ?_
                refine lv_aload_n hx hb dX12_tries_219 rfl (lv_at hl 2 rfl) ?_
                refine va_get (D := E.1) (ci := 12) (v := .ref (q 49)) (C := RX12) (T := TX12) (N := 59) hx hb hts inX12 hown hK hP 0 rfl rfl 49 (by decide) fl127 (fun _ h9 => h9) rfl dX12_tries_220 ?_
                refine lv_bipush (v := 10) hx hb dX12_tries_223 (by decide) ?_
                refine lv_iload_n hx hb dX12_tries_225 rfl (lv_at hl 4 rfl) ?_
                refine lv_imul hx hb dX12_tries_226 ?_
                refine lv_topi (fun x_91 ex_91 => ?_)
                obtain rfl : x_91 = nI (10 * po) := ex_91.trans (pk_mul 10 po)
                refine lv_aload_n hx hb dX12_tries_227 rfl (lv_at hl 2 rfl) ?_
                refine va_get (D := E.1) (ci := 12) (v := .ref (q 42)) (C := RX12) (T := TX12) (N := 59) hx hb hts inX12 hown hK hP 0 rfl rfl 42 (by decide) fl106 (fun _ h9 => h9) rfl dX12_tries_228 ?_
                refine lv_iload hx hb dX12_tries_231 (lv_at hl 9 rfl) ?_
                refine va_iald hx hb hK hP 4 0 rfl rfl hi_6 dX12_tries_233 ?_
                refine lv_topi (fun x_92 ex_92 => ?_)
                obtain rfl : x_92 = nI w_9 := ex_92.trans ex_7.symm
                refine lv_iadd hx hb dX12_tries_234 ?_
                refine lv_topi (fun x_93 ex_93 => ?_)
                obtain rfl : x_93 = nI ((10 * po) + w_9) := ex_93.trans (nI_add (10 * po) w_9)
                refine va_iald hx hb hK hP 3 0 rfl rfl hi_13 dX12_tries_235 ?_
                refine lv_topi (fun x_94 ex_94 => ?_)
                refine lv_iadd hx hb dX12_tries_236 ?_
                refine lv_topi (fun x_95 ex_95 => ?_)
                have hPc := hP.sub (ws' := [(h0, .inr (12, mG q i_taped i_size i_sort i_what i_at i_end i_worth i_faultKind i_faultPlace i_got i_worked (nI dl) i_isPlanned i_bestDone i_bestCost)), (q 51, .inl (E.2.1 0, 512, .inl a_least)), (q 52, .inl (E.2.1 0, 512, .inl a_order)), (q 49, .inl (E.2.1 0, 100, .inl a_flights)), (q 42, .inl (E.2.1 0, 7, .inl a_dFrom)), (q 43, .inl (E.2.1 0, 7, .inl a_dTo)), (q 44, .inl (E.2.1 0, 7, .inl a_dDays)), (q 45, .inl (E.2.1 0, 7, .inl a_dFirst)), (q 46, .inl (E.2.1 0, 7, .inl a_dLast))]) [0, 1, 2, 3, 4, 5, 6, 7, 8] rfl
                have hDc := hD.sub (ws' := [(h0, .inr (12, mG q i_taped i_size i_sort i_what i_at i_end i_worth i_faultKind i_faultPlace i_got i_worked (nI dl) i_isPlanned i_bestDone i_bestCost)), (q 51, .inl (E.2.1 0, 512, .inl a_least)), (q 52, .inl (E.2.1 0, 512, .inl a_order)), (q 49, .inl (E.2.1 0, 100, .inl a_flights)), (q 42, .inl (E.2.1 0, 7, .inl a_dFrom)), (q 43, .inl (E.2.1 0, 7, .inl a_dTo)), (q 44, .inl (E.2.1 0, 7, .inl a_dDays)), (q 45, .inl (E.2.1 0, 7, .inl a_dFirst)), (q 46, .inl (E.2.1 0, 7, .inl a_dLast))]) [0, 1, 2, 3, 4, 5, 6, 7, 8] (by decide) rfl
                have hFc := va_free (wc := [(h0, .inr (12, mG q i_taped i_size i_sort i_what i_at i_end i_worth i_faultKind i_faultPlace i_got i_worked (nI dl) i_isPlanned i_bestDone i_bestCost)), (q 51, .inl (E.2.1 0, 512, .inl a_least)), (q 52, .inl (E.2.1 0, 512, .inl a_order)), (q 49, .inl (E.2.1 0, 100, .inl a_flights)), (q 42, .inl (E.2.1 0, 7, .inl a_dFrom)), (q 43, .inl (E.2.1 0, 7, .inl a_dTo)), (q 44, .inl (E.2.1 0, 7, .inl a_dDays)), (q 45, .inl (E.2.1 0, 7, .inl a_dFirst)), (q 46, .inl (E.2.1 0, 7, .inl a_dLast))]) hD hS hA [0, 1, 2, 3, 4, 5, 6, 7, 8] rfl
                refine va_callv (va_runV (As := [.int (nI cr), .int (nI w_80), .int x_84, .int (nI w_87), .int (nI ((8 * ro) + k)), .int x_95]) (rest := []) ⟨hx, hb, hml, hown, hts⟩ (c_X12_tries1 l E h0 q i_taped i_size i_sort i_what i_at i_end i_worth i_faultKind i_faultPlace i_got i_worked i_isPlanned i_bestDone i_bestCost dl cr w_80 w_87 ((8 * ro) + k) a_least a_order a_flights a_dFrom a_dTo a_dDays a_dFirst a_dLast x_84 x_95 H.size hcr (by omega) hw_88 hdl hw_88b (dg_step hro hlt) hI_order hI_dFrom hI_dTo) (cwV 6 hts gX12_tries_X12_tries rfl rfl rfl hdV_X12_tries ⟨Nat.le_of_ble_eq_true rfl, Nat.le_of_ble_eq_true rfl⟩) ⟨pcW_blind, va_recv hK hPc (ci := 12) (q0 := 0) rfl rfl, (pcW_pre hPc hkn hDc hst hS hFc)⟩ rfl rfl hl.1 rfl (lv_room (Nat.le_of_ble_eq_true rfl)) dX12_tries_237 ⟨Nat.le_of_ble_eq_true rfl, Nat.le_of_ble_eq_true rfl⟩) hS (fun q _ h => hFc q h) hFc (fun u t H1 locs ht hvm hw_97 hB hz1 hk1 hS => ?_)
                obtain ⟨u_98, u_99⟩ := u
                obtain ⟨hf_100, hP1, hD1⟩ := hB
                rw [ht] at hP1
                try dsimp only at hw_97
                obtain ⟨hP, hD⟩ := va_join (wr := []) (w1 := [(h0, .inr (12, mG q i_taped i_size i_sort i_what i_at i_end i_worth i_faultKind i_faultPlace i_got i_worked (nI dl) i_isPlanned i_bestDone i_bestCost)), (q 51, .inl (E.2.1 0, 512, .inl u_98)), (q 52, .inl (E.2.1 0, 512, .inl u_99)), (q 49, .inl (E.2.1 0, 100, .inl a_flights)), (q 42, .inl (E.2.1 0, 7, .inl a_dFrom)), (q 43, .inl (E.2.1 0, 7, .inl a_dTo)), (q 44, .inl (E.2.1 0, 7, .inl a_dDays)), (q 45, .inl (E.2.1 0, 7, .inl a_dFirst)), (q 46, .inl (E.2.1 0, 7, .inl a_dLast))]) hP hD [0, 1, 2, 3, 4, 5, 6, 7, 8] [] rfl rfl (by decide) (by decide) hk1 hFc hP1 hD1
                generalize H1 = H at hP hS ⊢
                have hP : va_P E.1 vwCl [(h0, .inr (12, mG q i_taped i_size i_sort i_what i_at i_end i_worth i_faultKind i_faultPlace i_got i_worked (nI dl) i_isPlanned i_bestDone i_bestCost)), (q 51, .inl (E.2.1 0, 512, .inl u_98)), (q 52, .inl (E.2.1 0, 512, .inl u_99)), (q 49, .inl (E.2.1 0, 100, .inl a_flights)), (q 42, .inl (E.2.1 0, 7, .inl a_dFrom)), (q 43, .inl (E.2.1 0, 7, .inl a_dTo)), (q 44, .inl (E.2.1 0, 7, .inl a_dDays)), (q 45, .inl (E.2.1 0, 7, .inl a_dFirst)), (q 46, .inl (E.2.1 0, 7, .inl a_dLast))] H := hP
                have hD : va_D A [(h0, .inr (12, mG q i_taped i_size i_sort i_what i_at i_end i_worth i_faultKind i_faultPlace i_got i_worked (nI dl) i_isPlanned i_bestDone i_bestCost)), (q 51, .inl (E.2.1 0, 512, .inl u_98)), (q 52, .inl (E.2.1 0, 512, .inl u_99)), (q 49, .inl (E.2.1 0, 100, .inl a_flights)), (q 42, .inl (E.2.1 0, 7, .inl a_dFrom)), (q 43, .inl (E.2.1 0, 7, .inl a_dTo)), (q 44, .inl (E.2.1 0, 7, .inl a_dDays)), (q 45, .inl (E.2.1 0, 7, .inl a_dFirst)), (q 46, .inl (E.2.1 0, 7, .inl a_dLast))] := hD
                refine lv_iinc (v := (nI (k + 1))) (lv' := [(8, .int (nI (k + 1))), (10, .int x_75), (9, .int x_72), (0, .ref h0), (1, .int (nI cr)), (2, .int (nI po)), (3, .int da), (4, .int (nI se_)), (5, .int (nI ro)), (6, .int co_)]) hx hb dX12_tries_240 hl (k := 9) rfl (show nI k + 1 = nI (k + 1) from nI_1 k) (by decide) rfl (fun ls hl => ?_)
                refine lv_goto (tgt := 78) hx hb dX12_tries_243 (by decide) ?_
                exact ih (k + 1) u_98 u_99 _ _ _ (by omega) (by omega) hf_100 (hP.sub [0, 1, 2, 3, 4, 5, 6, 7, 8] rfl) (hD.sub [0, 1, 2, 3, 4, 5, 6, 7, 8] (by decide) rfl) hS (lv_sub hl [3, 4, 5, 6, 7, 8, 9, 0] rfl)
              · refine lv_goto (tgt := 240) hx hb dX12_tries_180 (by decide) ?_
                refine lv_iinc (v := (nI (k + 1))) (lv' := [(8, .int (nI (k + 1))), (10, .int x_75), (9, .int x_72), (0, .ref h0), (1, .int (nI cr)), (2, .int (nI po)), (3, .int da), (4, .int (nI se_)), (5, .int (nI ro)), (6, .int co_)]) hx hb dX12_tries_240 hl (k := 9) rfl (show nI k + 1 = nI (k + 1) from nI_1 k) (by decide) rfl (fun ls hl => ?_)
                refine lv_goto (tgt := 78) hx hb dX12_tries_243 (by decide) ?_
                exact ih (k + 1) a_least a_order _ _ _ (by omega) (by omega) hI_order (hP.sub [0, 1, 2, 3, 4, 5, 6, 7, 8] rfl) (hD.sub [0, 1, 2, 3, 4, 5, 6, 7, 8] (by decide) rfl) hS (lv_sub hl [3, 4, 5, 6, 7, 8, 9, 0] rfl)
            · refine lv_iload hx hb dX12_tries_154 (lv_at hl 0 rfl) ?_
              refine lv_goto (tgt := 166) hx hb dX12_tries_156 (by decide) ?_
              refine lv_istore (lv' := [(10, .int x_72), (9, .int x_72), (0, .ref h0), (1, .int (nI cr)), (2, .int (nI po)), (3, .int da), (4, .int (nI se_)), (5, .int (nI ro)), (6, .int co_), (8, .int (nI k))]) hx hb dX12_tries_166 hl (by decide) rfl (fun ls hl => ?_)
              refine lv_iload hx hb dX12_tries_168 (lv_at hl 0 rfl) ?_
              refine lv_aload_n hx hb dX12_tries_170 rfl (lv_at hl 2 rfl) ?_
              refine va_get (D := E.1) (ci := 12) (v := .ref (q 46)) (C := RX12) (T := TX12) (N := 59) hx hb hts inX12 hown hK hP 0 rfl rfl 46 (by decide) fl118 (fun _ h9 => h9) rfl dX12_tries_171 ?_
              refine lv_iload hx hb dX12_tries_174 (lv_at hl 9 rfl) ?_
              refine va_iald hx hb hK hP 8 0 rfl rfl hi_6 dX12_tries_176 ?_
              refine lv_topi (fun x_101 ex_101 => ?_)
              refine lv_icmp_le (tgt := 183) hx hb dX12_tries_177 (by decide) (fun c_102 => ?_) (fun c_102 => ?_)
              · refine lv_aload_n hx hb dX12_tries_183 rfl (lv_at hl 2 rfl) ?_
                refine lv_iload_n hx hb dX12_tries_184 rfl (lv_at hl 3 rfl) ?_
                refine lv_aload_n hx hb dX12_tries_185 rfl (lv_at hl 2 rfl) ?_
                refine va_get (D := E.1) (ci := 12) (v := .ref (q 43)) (C := RX12) (T := TX12) (N := 59) hx hb hts inX12 hown hK hP 0 rfl rfl 43 (by decide) fl109 (fun _ h9 => h9) rfl dX12_tries_186 ?_
                refine lv_iload hx hb dX12_tries_189 (lv_at hl 9 rfl) ?_
                refine va_iald hx hb hK hP 5 0 rfl rfl hi_6 dX12_tries_191 ?_
                refine lv_topi (fun x_103 ex_103 => ?_)
                have hv_104 : inR x_103 0 9 = true := by rw [ex_103]; exact hI_dTo _ (vin_cl hi_6)
                obtain ⟨w_105, hw_106, ew_107⟩ := inR_nI (n := 9) (by decide) hv_104
                subst ew_107
                refine lv_iload hx hb dX12_tries_192 (lv_at hl 0 rfl) ?_
                refine lv_aload_n hx hb dX12_tries_194 rfl (lv_at hl 2 rfl) ?_
                refine va_get (D := E.1) (ci := 12) (v := .ref (q 44)) (C := RX12) (T := TX12) (N := 59) hx hb hts inX12 hown hK hP 0 rfl rfl 44 (by decide) fl112 (fun _ h9 => h9) rfl dX12_tries_195 ?_
                refine lv_iload hx hb dX12_tries_198 (lv_at hl 9 rfl) ?_
                refine va_iald hx hb hK hP 6 0 rfl rfl hi_6 dX12_tries_200 ?_
                refine lv_topi (fun x_108 ex_108 => ?_)
                refine lv_iadd hx hb dX12_tries_201 ?_
                refine lv_topi (fun x_109 ex_109 => ?_)
                refine lv_iload hx hb dX12_tries_202 (lv_at hl 6 rfl) ?_
                refine lv_iconst (v := 1) hx hb dX12_tries_204 (by decide) ?_
                refine lv_iload hx hb dX12_tries_205 (lv_at hl 9 rfl) ?_
                refine lv_ishl hx hb dX12_tries_207 ?_
                refine lv_topi (fun x_110 ex_110 => ?_)
                refine lv_ior hx hb dX12_tries_208 ?_
                refine lv_topi (fun x_111 ex_111 => ?_)
                obtain ⟨w_112, hw_113, hw_113b, hw_113e⟩ : ∃ w, w < 128 ∧ bc7 w = 0 + 1 ∧ x_111 = nI w := by rw [ex_111, ex_110]; exact tr_bit hse hlt hbc (by rw [ex_3, ex_2] at c_4; exact c_4)
                subst hw_113e
                refine lv_bipush (v := 8) hx hb dX12_tries_209 (by decide) ?_
                refine lv_iload hx hb dX12_tries_211 (lv_at hl 7 rfl) ?_
                refine lv_imul hx hb dX12_tries_213 ?_
                refine lv_topi (fun x_114 ex_114 => ?_)
                obtain rfl : x_114 = nI (8 * ro) := ex_114.trans (pk_mul 8 ro)
                refine lv_iload hx hb dX12_tries_214 (lv_at hl 9 rfl) ?_
                refine lv_iadd hx hb dX12_tries_216 ?_
                refine lv_topi (fun x_115 ex_115 => ?_)
                obtain rfl : x_115 = nI ((8 * ro) + k) := ex_115.trans (nI_add (8 * ro) k)
                refine lv_iload hx hb dX12_tries_217 (lv_at hl 8 rfl) ?_
                refine lv_aload_n hx hb dX12_tries_219 rfl (lv_at hl 2 rfl) ?_
                refine va_get (D := E.1) (ci := 12) (v := .ref (q 49)) (C := RX12) (T := TX12) (N := 59) hx hb hts inX12 hown hK hP 0 rfl rfl 49 (by decide) fl127 (fun _ h9 => h9) rfl dX12_tries_220 ?_
                refine lv_bipush (v := 10) hx hb dX12_tries_223 (by decide) ?_
                refine lv_iload_n hx hb dX12_tries_225 rfl (lv_at hl 4 rfl) ?_
                refine lv_imul hx hb dX12_tries_226 ?_
                refine lv_topi (fun x_116 ex_116 => ?_)
                obtain rfl : x_116 = nI (10 * po) := ex_116.trans (pk_mul 10 po)
                refine lv_aload_n hx hb dX12_tries_227 rfl (lv_at hl 2 rfl) ?_
                refine va_get (D := E.1) (ci := 12) (v := .ref (q 42)) (C := RX12) (T := TX12) (N := 59) hx hb hts inX12 hown hK hP 0 rfl rfl 42 (by decide) fl106 (fun _ h9 => h9) rfl dX12_tries_228 ?_
                refine lv_iload hx hb dX12_tries_231 (lv_at hl 9 rfl) ?_
                refine va_iald hx hb hK hP 4 0 rfl rfl hi_6 dX12_tries_233 ?_
                refine lv_topi (fun x_117 ex_117 => ?_)
                obtain rfl : x_117 = nI w_9 := ex_117.trans ex_7.symm
                refine lv_iadd hx hb dX12_tries_234 ?_
                refine lv_topi (fun x_118 ex_118 => ?_)
                obtain rfl : x_118 = nI ((10 * po) + w_9) := ex_118.trans (nI_add (10 * po) w_9)
                refine va_iald hx hb hK hP 3 0 rfl rfl hi_13 dX12_tries_235 ?_
                refine lv_topi (fun x_119 ex_119 => ?_)
                refine lv_iadd hx hb dX12_tries_236 ?_
                refine lv_topi (fun x_120 ex_120 => ?_)
                have hPc := hP.sub (ws' := [(h0, .inr (12, mG q i_taped i_size i_sort i_what i_at i_end i_worth i_faultKind i_faultPlace i_got i_worked (nI dl) i_isPlanned i_bestDone i_bestCost)), (q 51, .inl (E.2.1 0, 512, .inl a_least)), (q 52, .inl (E.2.1 0, 512, .inl a_order)), (q 49, .inl (E.2.1 0, 100, .inl a_flights)), (q 42, .inl (E.2.1 0, 7, .inl a_dFrom)), (q 43, .inl (E.2.1 0, 7, .inl a_dTo)), (q 44, .inl (E.2.1 0, 7, .inl a_dDays)), (q 45, .inl (E.2.1 0, 7, .inl a_dFirst)), (q 46, .inl (E.2.1 0, 7, .inl a_dLast))]) [0, 1, 2, 3, 4, 5, 6, 7, 8] rfl
                have hDc := hD.sub (ws' := [(h0, .inr (12, mG q i_taped i_size i_sort i_what i_at i_end i_worth i_faultKind i_faultPlace i_got i_worked (nI dl) i_isPlanned i_bestDone i_bestCost)), (q 51, .inl (E.2.1 0, 512, .inl a_least)), (q 52, .inl (E.2.1 0, 512, .inl a_order)), (q 49, .inl (E.2.1 0, 100, .inl a_flights)), (q 42, .inl (E.2.1 0, 7, .inl a_dFrom)), (q 43, .inl (E.2.1 0, 7, .inl a_dTo)), (q 44, .inl (E.2.1 0, 7, .inl a_dDays)), (q 45, .inl (E.2.1 0, 7, .inl a_dFirst)), (q 46, .inl (E.2.1 0, 7, .inl a_dLast))]) [0, 1, 2, 3, 4, 5, 6, 7, 8] (by decide) rfl
                have hFc := va_free (wc := [(h0, .inr (12, mG q i_taped i_size i_sort i_what i_at i_end i_worth i_faultKind i_faultPlace i_got i_worked (nI dl) i_isPlanned i_bestDone i_bestCost)), (q 51, .inl (E.2.1 0, 512, .inl a_least)), (q 52, .inl (E.2.1 0, 512, .inl a_order)), (q 49, .inl (E.2.1 0, 100, .inl a_flights)), (q 42, .inl (E.2.1 0, 7, .inl a_dFrom)), (q 43, .inl (E.2.1 0, 7, .inl a_dTo)), (q 44, .inl (E.2.1 0, 7, .inl a_dDays)), (q 45, .inl (E.2.1 0, 7, .inl a_dFirst)), (q 46, .inl (E.2.1 0, 7, .inl a_dLast))]) hD hS hA [0, 1, 2, 3, 4, 5, 6, 7, 8] rfl
                refine va_callv (va_runV (As := [.int (nI cr), .int (nI w_105), .int x_109, .int (nI w_112), .int (nI ((8 * ro) + k)), .int x_120]) (rest := []) ⟨hx, hb, hml, hown, hts⟩ (c_X12_tries1 l E h0 q i_taped i_size i_sort i_what i_at i_end i_worth i_faultKind i_faultPlace i_got i_worked i_isPlanned i_bestDone i_bestCost dl cr w_105 w_112 ((8 * ro) + k) a_least a_order a_flights a_dFrom a_dTo a_dDays a_dFirst a_dLast x_109 x_120 H.size hcr (by omega) hw_113 hdl hw_113b (dg_step hro hlt) hI_order hI_dFrom hI_dTo) (cwV 6 hts gX12_tries_X12_tries rfl rfl rfl hdV_X12_tries ⟨Nat.le_of_ble_eq_true rfl, Nat.le_of_ble_eq_true rfl⟩) ⟨pcW_blind, va_recv hK hPc (ci := 12) (q0 := 0) rfl rfl, (pcW_pre hPc hkn hDc hst hS hFc)⟩ rfl rfl hl.1 rfl (lv_room (Nat.le_of_ble_eq_true rfl)) dX12_tries_237 ⟨Nat.le_of_ble_eq_true rfl, Nat.le_of_ble_eq_true rfl⟩) hS (fun q _ h => hFc q h) hFc (fun u t H1 locs ht hvm hw_122 hB hz1 hk1 hS => ?_)
                obtain ⟨u_123, u_124⟩ := u
                obtain ⟨hf_125, hP1, hD1⟩ := hB
                rw [ht] at hP1
                try dsimp only at hw_122
                obtain ⟨hP, hD⟩ := va_join (wr := []) (w1 := [(h0, .inr (12, mG q i_taped i_size i_sort i_what i_at i_end i_worth i_faultKind i_faultPlace i_got i_worked (nI dl) i_isPlanned i_bestDone i_bestCost)), (q 51, .inl (E.2.1 0, 512, .inl u_123)), (q 52, .inl (E.2.1 0, 512, .inl u_124)), (q 49, .inl (E.2.1 0, 100, .inl a_flights)), (q 42, .inl (E.2.1 0, 7, .inl a_dFrom)), (q 43, .inl (E.2.1 0, 7, .inl a_dTo)), (q 44, .inl (E.2.1 0, 7, .inl a_dDays)), (q 45, .inl (E.2.1 0, 7, .inl a_dFirst)), (q 46, .inl (E.2.1 0, 7, .inl a_dLast))]) hP hD [0, 1, 2, 3, 4, 5, 6, 7, 8] [] rfl rfl (by decide) (by decide) hk1 hFc hP1 hD1
                generalize H1 = H at hP hS ⊢
                have hP : va_P E.1 vwCl [(h0, .inr (12, mG q i_taped i_size i_sort i_what i_at i_end i_worth i_faultKind i_faultPlace i_got i_worked (nI dl) i_isPlanned i_bestDone i_bestCost)), (q 51, .inl (E.2.1 0, 512, .inl u_123)), (q 52, .inl (E.2.1 0, 512, .inl u_124)), (q 49, .inl (E.2.1 0, 100, .inl a_flights)), (q 42, .inl (E.2.1 0, 7, .inl a_dFrom)), (q 43, .inl (E.2.1 0, 7, .inl a_dTo)), (q 44, .inl (E.2.1 0, 7, .inl a_dDays)), (q 45, .inl (E.2.1 0, 7, .inl a_dFirst)), (q 46, .inl (E.2.1 0, 7, .inl a_dLast))] H := hP
                have hD : va_D A [(h0, .inr (12, mG q i_taped i_size i_sort i_what i_at i_end i_worth i_faultKind i_faultPlace i_got i_worked (nI dl) i_isPlanned i_bestDone i_bestCost)), (q 51, .inl (E.2.1 0, 512, .inl u_123)), (q 52, .inl (E.2.1 0, 512, .inl u_124)), (q 49, .inl (E.2.1 0, 100, .inl a_flights)), (q 42, .inl (E.2.1 0, 7, .inl a_dFrom)), (q 43, .inl (E.2.1 0, 7, .inl a_dTo)), (q 44, .inl (E.2.1 0, 7, .inl a_dDays)), (q 45, .inl (E.2.1 0, 7, .inl a_dFirst)), (q 46, .inl (E.2.1 0, 7, .inl a_dLast))] := hD
                refine lv_iinc (v := (nI (k + 1))) (lv' := [(8, .int (nI (k + 1))), (10, .int x_72), (9, .int x_72), (0, .ref h0), (1, .int (nI cr)), (2, .int (nI po)), (3, .int da), (4, .int (nI se_)), (5, .int (nI ro)), (6, .int co_)]) hx hb dX12_tries_240 hl (k := 9) rfl (show nI k + 1 = nI (k + 1) from nI_1 k) (by decide) rfl (fun ls hl => ?_)
                refine lv_goto (tgt := 78) hx hb dX12_tries_243 (by decide) ?_
                exact ih (k + 1) u_123 u_124 _ _ _ (by omega) (by omega) hf_125 (hP.sub [0, 1, 2, 3, 4, 5, 6, 7, 8] rfl) (hD.sub [0, 1, 2, 3, 4, 5, 6, 7, 8] (by decide) rfl) hS (lv_sub hl [3, 4, 5, 6, 7, 8, 9, 0] rfl)
              · refine lv_goto (tgt := 240) hx hb dX12_tries_180 (by decide) ?_
                refine lv_iinc (v := (nI (k + 1))) (lv' := [(8, .int (nI (k + 1))), (10, .int x_72), (9, .int x_72), (0, .ref h0), (1, .int (nI cr)), (2, .int (nI po)), (3, .int da), (4, .int (nI se_)), (5, .int (nI ro)), (6, .int co_)]) hx hb dX12_tries_240 hl (k := 9) rfl (show nI k + 1 = nI (k + 1) from nI_1 k) (by decide) rfl (fun ls hl => ?_)
                refine lv_goto (tgt := 78) hx hb dX12_tries_243 (by decide) ?_
                exact ih (k + 1) a_least a_order _ _ _ (by omega) (by omega) hI_order (hP.sub [0, 1, 2, 3, 4, 5, 6, 7, 8] rfl) (hD.sub [0, 1, 2, 3, 4, 5, 6, 7, 8] (by decide) rfl) hS (lv_sub hl [3, 4, 5, 6, 7, 8, 9, 0] rfl)
        · refine lv_goto (tgt := 240) hx hb dX12_tries_119 (by decide) ?_
          refine lv_iinc (v := (nI (k + 1))) (lv' := [(8, .int (nI (k + 1))), (0, .ref h0), (1, .int (nI cr)), (2, .int (nI po)), (3, .int da), (4, .int (nI se_)), (5, .int (nI ro)), (6, .int co_)]) hx hb dX12_tries_240 hl (k := 7) rfl (show nI k + 1 = nI (k + 1) from nI_1 k) (by decide) rfl (fun ls hl => ?_)
          refine lv_goto (tgt := 78) hx hb dX12_tries_243 (by decide) ?_
          exact ih (k + 1) a_least a_order _ _ _ (by omega) (by omega) hI_order (hP.sub [0, 1, 2, 3, 4, 5, 6, 7, 8] rfl) (hD.sub [0, 1, 2, 3, 4, 5, 6, 7, 8] (by decide) rfl) hS (lv_sub hl [1, 2, 3, 4, 5, 6, 7, 0] rfl)
set_option maxHeartbeats 4000000 in
set_option maxRecDepth 100000 in
theorem c_X12_tries0 (l : Launch) (E : vE) (h0 : Nat) (q : Nat → Nat) (i_taped : Int32) (i_size : Int32) (i_sort : Int32) (i_what : Int32) (i_at : Int32) (i_end : Int32) (i_worth : Int32) (i_faultKind : Int32) (i_faultPlace : Int32) (i_got : Int32) (i_worked : Int32) (i_isPlanned : Int32) (i_bestDone : Int32) (i_bestCost : Int32) (dl : Nat) (cr : Nat) (po : Nat) (se_ : Nat) (ro : Nat) (a_least : Nat → Int32) (a_order : Nat → Int32) (a_flights : Nat → Int32) (a_dFrom : Nat → Int32) (a_dTo : Nat → Int32) (a_dDays : Nat → Int32) (a_dFirst : Nat → Int32) (a_dLast : Nat → Int32) (da : Int32) (co_ : Int32) (sz : Nat) (hcr : cr < 4) (hpo : po ≤ 9) (hse : se_ < 128) (hdl : dl ≤ 7) (hbc : bc7 se_ = 0) (hro : dg ro 0) (hI_order : ∀ k : Nat, k < 512 → digOK (a_order k)) (hI_dFrom : ∀ k : Nat, k < 7 → inR (a_dFrom k) 0 9 = true) (hI_dTo : ∀ k : Nat, k < 7 → inR (a_dTo k) 0 9 = true) : Met l yX12_tries wsX12_tries ({ frames := 7, cells := 0, slots := 0, locals := 210 }) (pcW E [.ref h0, .int (nI cr), .int (nI po), .int da, .int (nI se_), .int (nI ro), .int co_] sz [(h0, .inr (12, mG q i_taped i_size i_sort i_what i_at i_end i_worth i_faultKind i_faultPlace i_got i_worked (nI dl) i_isPlanned i_bestDone i_bestCost)), (q 51, .inl (E.2.1 0, 512, .inl a_least)), (q 52, .inl (E.2.1 0, 512, .inl a_order)), (q 49, .inl (E.2.1 0, 100, .inl a_flights)), (q 42, .inl (E.2.1 0, 7, .inl a_dFrom)), (q 43, .inl (E.2.1 0, 7, .inl a_dTo)), (q 44, .inl (E.2.1 0, 7, .inl a_dDays)), (q 45, .inl (E.2.1 0, 7, .inl a_dFirst)), (q 46, .inl (E.2.1 0, 7, .inl a_dLast))]) (va_Qv (fun (u : (Nat → Int32) × (Nat → Int32)) => match u with | (b_least, b_order) => True) (fun (u : (Nat → Int32) × (Nat → Int32)) (t : State) => match u with | (b_least, b_order) => (∀ k : Nat, k < 512 → digOK (b_order k)) ∧ wB E (va_A [(h0, .inr (12, mG q i_taped i_size i_sort i_what i_at i_end i_worth i_faultKind i_faultPlace i_got i_worked (nI dl) i_isPlanned i_bestDone i_bestCost)), (q 51, .inl (E.2.1 0, 512, .inl a_least)), (q 52, .inl (E.2.1 0, 512, .inl a_order)), (q 49, .inl (E.2.1 0, 100, .inl a_flights)), (q 42, .inl (E.2.1 0, 7, .inl a_dFrom)), (q 43, .inl (E.2.1 0, 7, .inl a_dTo)), (q 44, .inl (E.2.1 0, 7, .inl a_dDays)), (q 45, .inl (E.2.1 0, 7, .inl a_dFirst)), (q 46, .inl (E.2.1 0, 7, .inl a_dLast))] sz) [(h0, .inr (12, mG q i_taped i_size i_sort i_what i_at i_end i_worth i_faultKind i_faultPlace i_got i_worked (nI dl) i_isPlanned i_bestDone i_bestCost)), (q 51, .inl (E.2.1 0, 512, .inl b_least)), (q 52, .inl (E.2.1 0, 512, .inl b_order)), (q 49, .inl (E.2.1 0, 100, .inl a_flights)), (q 42, .inl (E.2.1 0, 7, .inl a_dFrom)), (q 43, .inl (E.2.1 0, 7, .inl a_dTo)), (q 44, .inl (E.2.1 0, 7, .inl a_dDays)), (q 45, .inl (E.2.1 0, 7, .inl a_dFirst)), (q 46, .inl (E.2.1 0, 7, .inl a_dLast))] t) (va_A [(h0, .inr (12, mG q i_taped i_size i_sort i_what i_at i_end i_worth i_faultKind i_faultPlace i_got i_worked (nI dl) i_isPlanned i_bestDone i_bestCost)), (q 51, .inl (E.2.1 0, 512, .inl a_least)), (q 52, .inl (E.2.1 0, 512, .inl a_order)), (q 49, .inl (E.2.1 0, 100, .inl a_flights)), (q 42, .inl (E.2.1 0, 7, .inl a_dFrom)), (q 43, .inl (E.2.1 0, 7, .inl a_dTo)), (q 44, .inl (E.2.1 0, 7, .inl a_dDays)), (q 45, .inl (E.2.1 0, 7, .inl a_dFirst)), (q 46, .inl (E.2.1 0, 7, .inl a_dLast))] sz)) 0 0 (va_A [(h0, .inr (12, mG q i_taped i_size i_sort i_what i_at i_end i_worth i_faultKind i_faultPlace i_got i_worked (nI dl) i_isPlanned i_bestDone i_bestCost)), (q 51, .inl (E.2.1 0, 512, .inl a_least)), (q 52, .inl (E.2.1 0, 512, .inl a_order)), (q 49, .inl (E.2.1 0, 100, .inl a_flights)), (q 42, .inl (E.2.1 0, 7, .inl a_dFrom)), (q 43, .inl (E.2.1 0, 7, .inl a_dTo)), (q 44, .inl (E.2.1 0, 7, .inl a_dDays)), (q 45, .inl (E.2.1 0, 7, .inl a_dFirst)), (q 46, .inl (E.2.1 0, 7, .inl a_dLast))] sz) := by
  refine Met.ofW (cc := cX12_tries) (maxL := 11) (ret := none) (by decide) rfl ?_
  intro p e s m args below meth c s₁ B hml hv
  obtain ⟨rfl, hsz, hP, hkn, hD0, hst⟩ := hv
  have hx := B.exec
  have hb := B.bytes
  have hr := B.returns
  have hts := atoms_spec (ws := wsX12_tries) B.pre
  have hown : s.vm.findClass RX12 = some m.cls := findClass_of_methodNamed B.named
  have hlocks := B.notSynchronized
  subst hsz
  have hD := hD0.self (sz := s.heap.size)
  have hK := hkn.1
  have hAO := hkn.2.2.1
  generalize hAe : va_A [(h0, .inr (12, mG q i_taped i_size i_sort i_what i_at i_end i_worth i_faultKind i_faultPlace i_got i_worked (nI dl) i_isPlanned i_bestDone i_bestCost)), (q 51, .inl (E.2.1 0, 512, .inl a_least)), (q 52, .inl (E.2.1 0, 512, .inl a_order)), (q 49, .inl (E.2.1 0, 100, .inl a_flights)), (q 42, .inl (E.2.1 0, 7, .inl a_dFrom)), (q 43, .inl (E.2.1 0, 7, .inl a_dTo)), (q 44, .inl (E.2.1 0, 7, .inl a_dDays)), (q 45, .inl (E.2.1 0, 7, .inl a_dFirst)), (q 46, .inl (E.2.1 0, 7, .inl a_dLast))] s.heap.size = A at hD hst ⊢
  have hA : ∀ q : Nat, s.heap.size ≤ q → A q := fun q h => by rw [← hAe]; exact Or.inr h
  have hS : va_S A s.heap s.heap [] := va_S.rf
  have hP : va_P E.1 vwCl [(h0, .inr (12, mG q i_taped i_size i_sort i_what i_at i_end i_worth i_faultKind i_faultPlace i_got i_worked (nI dl) i_isPlanned i_bestDone i_bestCost)), (q 51, .inl (E.2.1 0, 512, .inl a_least)), (q 52, .inl (E.2.1 0, 512, .inl a_order)), (q 49, .inl (E.2.1 0, 100, .inl a_flights)), (q 42, .inl (E.2.1 0, 7, .inl a_dFrom)), (q 43, .inl (E.2.1 0, 7, .inl a_dTo)), (q 44, .inl (E.2.1 0, 7, .inl a_dDays)), (q 45, .inl (E.2.1 0, 7, .inl a_dFirst)), (q 46, .inl (E.2.1 0, 7, .inl a_dLast))] s.heap := hP
  have hl := lv_entry ([.ref h0, .int (nI cr), .int (nI po), .int da, .int (nI se_), .int (nI ro), .int co_]) (n := 11) (Nat.le_of_ble_eq_true rfl)
  rw [lg_entry_eq]
  generalize (lg_sl ([.ref h0, .int (nI cr), .int (nI po), .int da, .int (nI se_), .int (nI ro), .int co_]) ++ List.replicate (11 - (lg_sl ([.ref h0, .int (nI cr), .int (nI po), .int da, .int (nI se_), .int (nI ro), .int co_])).length) Slot.unset).toArray = ls at hl ⊢
  have hl : lv_has ls 11 [(0, .ref h0), (1, .int (nI cr)), (2, .int (nI po)), (3, .int da), (4, .int (nI se_)), (5, .int (nI ro)), (6, .int co_)] := hl
  have fl106 := hts (.fieldLink RX12 106 "BoatsHomeModel" "dFrom" "[I") (by first | exact List.mem_of_getElem? (i := 5) rfl | decide +kernel)
  have fl109 := hts (.fieldLink RX12 109 "BoatsHomeModel" "dTo" "[I") (by first | exact List.mem_of_getElem? (i := 8) rfl | decide +kernel)
  have fl112 := hts (.fieldLink RX12 112 "BoatsHomeModel" "dDays" "[I") (by first | exact List.mem_of_getElem? (i := 9) rfl | decide +kernel)
  have fl115 := hts (.fieldLink RX12 115 "BoatsHomeModel" "dFirst" "[I") (by first | exact List.mem_of_getElem? (i := 6) rfl | decide +kernel)
  have fl118 := hts (.fieldLink RX12 118 "BoatsHomeModel" "dLast" "[I") (by first | exact List.mem_of_getElem? (i := 7) rfl | decide +kernel)
  have fl127 := hts (.fieldLink RX12 127 "BoatsHomeModel" "flights" "[I") (by first | exact List.mem_of_getElem? (i := 4) rfl | decide +kernel)
  have fl130 := hts (.fieldLink RX12 130 "BoatsHomeModel" "least" "[I") (by first | exact List.mem_of_getElem? (i := 1) rfl | decide +kernel)
  have fl133 := hts (.fieldLink RX12 133 "BoatsHomeModel" "order" "[I") (by first | exact List.mem_of_getElem? (i := 2) rfl | decide +kernel)
  have fl289 := hts (.fieldLink RX12 289 "BoatsHomeModel" "deliveries" "I") (by first | exact List.mem_of_getElem? (i := 3) rfl | decide +kernel)
  have inX12 : ∀ w ∈ u_ws RX12 TX12 59, w ∈ wsX12_tries := by first | exact fun w h9 => (List.mem_cons_of_mem _ (List.mem_append_right _ h9)) | decide +kernel
  refine lv_sipush (v := 128) hx hb dX12_tries_0 (by decide) ?_
  refine lv_iload_n hx hb dX12_tries_3 rfl (lv_at hl 1 rfl) ?_
  refine lv_imul hx hb dX12_tries_4 ?_
  refine lv_topi (fun x_1 ex_1 => ?_)
  obtain rfl : x_1 = nI (128 * cr) := ex_1.trans (pk_mul 128 cr)
  refine lv_iload hx hb dX12_tries_5 (lv_at hl 4 rfl) ?_
  refine lv_iadd hx hb dX12_tries_7 ?_
  refine lv_topi (fun x_2 ex_2 => ?_)
  obtain rfl : x_2 = nI ((128 * cr) + se_) := ex_2.trans (nI_add (128 * cr) se_)
  refine lv_istore (lv' := [(7, .int (nI ((128 * cr) + se_))), (0, .ref h0), (1, .int (nI cr)), (2, .int (nI po)), (3, .int da), (4, .int (nI se_)), (5, .int (nI ro)), (6, .int co_)]) hx hb dX12_tries_8 hl (by decide) rfl (fun ls hl => ?_)
  refine lv_aload_n hx hb dX12_tries_10 rfl (lv_at hl 1 rfl) ?_
  refine va_get (D := E.1) (ci := 12) (v := .ref (q 51)) (C := RX12) (T := TX12) (N := 59) hx hb hts inX12 hown hK hP 0 rfl rfl 51 (by decide) fl130 (fun _ h9 => h9) rfl dX12_tries_11 ?_
  refine lv_iload hx hb dX12_tries_14 (lv_at hl 0 rfl) ?_
  have hi_3 : vp_in (nI ((128 * cr) + se_)) 512 := vp_in_nI (by omega) (by decide)
  refine va_iald hx hb hK hP 1 0 rfl rfl hi_3 dX12_tries_16 ?_
  refine lv_topi (fun x_4 ex_4 => ?_)
  refine lv_iconst (v := (-1)) hx hb dX12_tries_17 (by decide) ?_
  refine lv_icmp_eq (tgt := 57) hx hb dX12_tries_18 (by decide) (fun c_5 => ?_) (fun c_5 => ?_)
  · refine lv_aload_n hx hb dX12_tries_57 rfl (lv_at hl 1 rfl) ?_
    refine va_get (D := E.1) (ci := 12) (v := .ref (q 51)) (C := RX12) (T := TX12) (N := 59) hx hb hts inX12 hown hK hP 0 rfl rfl 51 (by decide) fl130 (fun _ h9 => h9) rfl dX12_tries_58 ?_
    refine lv_iload hx hb dX12_tries_61 (lv_at hl 0 rfl) ?_
    refine lv_iload hx hb dX12_tries_63 (lv_at hl 7 rfl) ?_
    refine va_iast hx hb hK hP hD hS 1 0 rfl rfl hi_3 dX12_tries_65 (fun H locs hP hD hS => ?_)
    have hP : va_P E.1 vwCl [(h0, .inr (12, mG q i_taped i_size i_sort i_what i_at i_end i_worth i_faultKind i_faultPlace i_got i_worked (nI dl) i_isPlanned i_bestDone i_bestCost)), (q 51, .inl (E.2.1 0, 512, .inl (upd a_least (nI ((128 * cr) + se_)).toNatClampNeg co_))), (q 52, .inl (E.2.1 0, 512, .inl a_order)), (q 49, .inl (E.2.1 0, 100, .inl a_flights)), (q 42, .inl (E.2.1 0, 7, .inl a_dFrom)), (q 43, .inl (E.2.1 0, 7, .inl a_dTo)), (q 44, .inl (E.2.1 0, 7, .inl a_dDays)), (q 45, .inl (E.2.1 0, 7, .inl a_dFirst)), (q 46, .inl (E.2.1 0, 7, .inl a_dLast))] H := hP
    have hD : va_D A [(h0, .inr (12, mG q i_taped i_size i_sort i_what i_at i_end i_worth i_faultKind i_faultPlace i_got i_worked (nI dl) i_isPlanned i_bestDone i_bestCost)), (q 51, .inl (E.2.1 0, 512, .inl (upd a_least (nI ((128 * cr) + se_)).toNatClampNeg co_))), (q 52, .inl (E.2.1 0, 512, .inl a_order)), (q 49, .inl (E.2.1 0, 100, .inl a_flights)), (q 42, .inl (E.2.1 0, 7, .inl a_dFrom)), (q 43, .inl (E.2.1 0, 7, .inl a_dTo)), (q 44, .inl (E.2.1 0, 7, .inl a_dDays)), (q 45, .inl (E.2.1 0, 7, .inl a_dFirst)), (q 46, .inl (E.2.1 0, 7, .inl a_dLast))] := hD
    obtain ⟨f_6, ef_6⟩ : ∃ g : Nat → Int32, g = upd a_least (nI ((128 * cr) + se_)).toNatClampNeg co_ := ⟨_, rfl⟩
    rw [← ef_6] at hP hD
    refine lv_aload_n hx hb dX12_tries_66 rfl (lv_at hl 1 rfl) ?_
    refine va_get (D := E.1) (ci := 12) (v := .ref (q 52)) (C := RX12) (T := TX12) (N := 59) hx hb hts inX12 hown hK hP 0 rfl rfl 52 (by decide) fl133 (fun _ h9 => h9) rfl dX12_tries_67 ?_
    refine lv_iload hx hb dX12_tries_70 (lv_at hl 0 rfl) ?_
    refine lv_iload hx hb dX12_tries_72 (lv_at hl 6 rfl) ?_
    refine va_iast hx hb hK hP hD hS 2 0 rfl rfl hi_3 dX12_tries_74 (fun H locs hP hD hS => ?_)
    have hP : va_P E.1 vwCl [(h0, .inr (12, mG q i_taped i_size i_sort i_what i_at i_end i_worth i_faultKind i_faultPlace i_got i_worked (nI dl) i_isPlanned i_bestDone i_bestCost)), (q 51, .inl (E.2.1 0, 512, .inl f_6)), (q 52, .inl (E.2.1 0, 512, .inl (upd a_order (nI ((128 * cr) + se_)).toNatClampNeg (nI ro)))), (q 49, .inl (E.2.1 0, 100, .inl a_flights)), (q 42, .inl (E.2.1 0, 7, .inl a_dFrom)), (q 43, .inl (E.2.1 0, 7, .inl a_dTo)), (q 44, .inl (E.2.1 0, 7, .inl a_dDays)), (q 45, .inl (E.2.1 0, 7, .inl a_dFirst)), (q 46, .inl (E.2.1 0, 7, .inl a_dLast))] H := hP
    have hD : va_D A [(h0, .inr (12, mG q i_taped i_size i_sort i_what i_at i_end i_worth i_faultKind i_faultPlace i_got i_worked (nI dl) i_isPlanned i_bestDone i_bestCost)), (q 51, .inl (E.2.1 0, 512, .inl f_6)), (q 52, .inl (E.2.1 0, 512, .inl (upd a_order (nI ((128 * cr) + se_)).toNatClampNeg (nI ro)))), (q 49, .inl (E.2.1 0, 100, .inl a_flights)), (q 42, .inl (E.2.1 0, 7, .inl a_dFrom)), (q 43, .inl (E.2.1 0, 7, .inl a_dTo)), (q 44, .inl (E.2.1 0, 7, .inl a_dDays)), (q 45, .inl (E.2.1 0, 7, .inl a_dFirst)), (q 46, .inl (E.2.1 0, 7, .inl a_dLast))] := hD
    obtain ⟨f_7, ef_7⟩ : ∃ g : Nat → Int32, g = upd a_order (nI ((128 * cr) + se_)).toNatClampNeg (nI ro) := ⟨_, rfl⟩
    rw [← ef_7] at hP hD
    have hI_8 : ∀ k : Nat, k < 512 → digOK (f_7 k) := by rw [ef_7]; exact all_upd (P := fun z => digOK z) hI_order (dg_OK hro (by decide))
    refine lv_iconst (v := 0) hx hb dX12_tries_75 (by decide) ?_
    refine lv_istore (lv' := [(8, .int 0), (7, .int (nI ((128 * cr) + se_))), (0, .ref h0), (1, .int (nI cr)), (2, .int (nI po)), (3, .int da), (4, .int (nI se_)), (5, .int (nI ro)), (6, .int co_)]) hx hb dX12_tries_76 hl (by decide) rfl (fun ls hl => ?_)
    have hPl := hP.sub (ws' := [(h0, .inr (12, mG q i_taped i_size i_sort i_what i_at i_end i_worth i_faultKind i_faultPlace i_got i_worked (nI dl) i_isPlanned i_bestDone i_bestCost)), (q 51, .inl (E.2.1 0, 512, .inl f_6)), (q 52, .inl (E.2.1 0, 512, .inl f_7)), (q 49, .inl (E.2.1 0, 100, .inl a_flights)), (q 42, .inl (E.2.1 0, 7, .inl a_dFrom)), (q 43, .inl (E.2.1 0, 7, .inl a_dTo)), (q 44, .inl (E.2.1 0, 7, .inl a_dDays)), (q 45, .inl (E.2.1 0, 7, .inl a_dFirst)), (q 46, .inl (E.2.1 0, 7, .inl a_dLast))]) [0, 1, 2, 3, 4, 5, 6, 7, 8] rfl
    have hDl := hD.sub (ws' := [(h0, .inr (12, mG q i_taped i_size i_sort i_what i_at i_end i_worth i_faultKind i_faultPlace i_got i_worked (nI dl) i_isPlanned i_bestDone i_bestCost)), (q 51, .inl (E.2.1 0, 512, .inl f_6)), (q 52, .inl (E.2.1 0, 512, .inl f_7)), (q 49, .inl (E.2.1 0, 100, .inl a_flights)), (q 42, .inl (E.2.1 0, 7, .inl a_dFrom)), (q 43, .inl (E.2.1 0, 7, .inl a_dTo)), (q 44, .inl (E.2.1 0, 7, .inl a_dDays)), (q 45, .inl (E.2.1 0, 7, .inl a_dFirst)), (q 46, .inl (E.2.1 0, 7, .inl a_dLast))]) [0, 1, 2, 3, 4, 5, 6, 7, 8] (by decide) rfl
    refine lm_tries0 E h0 q i_taped i_size i_sort i_what i_at i_end i_worth i_faultKind i_faultPlace i_got i_worked i_isPlanned i_bestDone i_bestCost dl cr po se_ ro da co_ a_flights a_dFrom a_dTo a_dDays a_dFirst a_dLast hx hb hml hown hts hkn hst hA (by omega) (by omega) (by omega) (by omega) hbc hro hI_dFrom hI_dTo (fun n_9 n_10 H locs ls hI_order hP hD hS hl => ?_) 9 0 f_6 f_7 _ _ _ (by omega) (by omega) hI_8 hPl hDl hS (lv_sub hl [2, 3, 4, 5, 6, 7, 8, 0] rfl)
    have hP : va_P E.1 vwCl [(h0, .inr (12, mG q i_taped i_size i_sort i_what i_at i_end i_worth i_faultKind i_faultPlace i_got i_worked (nI dl) i_isPlanned i_bestDone i_bestCost)), (q 51, .inl (E.2.1 0, 512, .inl n_9)), (q 52, .inl (E.2.1 0, 512, .inl n_10)), (q 49, .inl (E.2.1 0, 100, .inl a_flights)), (q 42, .inl (E.2.1 0, 7, .inl a_dFrom)), (q 43, .inl (E.2.1 0, 7, .inl a_dTo)), (q 44, .inl (E.2.1 0, 7, .inl a_dDays)), (q 45, .inl (E.2.1 0, 7, .inl a_dFirst)), (q 46, .inl (E.2.1 0, 7, .inl a_dLast))] H := hP
    have hD : va_D A [(h0, .inr (12, mG q i_taped i_size i_sort i_what i_at i_end i_worth i_faultKind i_faultPlace i_got i_worked (nI dl) i_isPlanned i_bestDone i_bestCost)), (q 51, .inl (E.2.1 0, 512, .inl n_9)), (q 52, .inl (E.2.1 0, 512, .inl n_10)), (q 49, .inl (E.2.1 0, 100, .inl a_flights)), (q 42, .inl (E.2.1 0, 7, .inl a_dFrom)), (q 43, .inl (E.2.1 0, 7, .inl a_dTo)), (q 44, .inl (E.2.1 0, 7, .inl a_dDays)), (q 45, .inl (E.2.1 0, 7, .inl a_dFirst)), (q 46, .inl (E.2.1 0, 7, .inl a_dLast))] := hD
    have hP9 := hP.sub (ws' := [(h0, .inr (12, mG q i_taped i_size i_sort i_what i_at i_end i_worth i_faultKind i_faultPlace i_got i_worked (nI dl) i_isPlanned i_bestDone i_bestCost)), (q 51, .inl (E.2.1 0, 512, .inl n_9)), (q 52, .inl (E.2.1 0, 512, .inl n_10)), (q 49, .inl (E.2.1 0, 100, .inl a_flights)), (q 42, .inl (E.2.1 0, 7, .inl a_dFrom)), (q 43, .inl (E.2.1 0, 7, .inl a_dTo)), (q 44, .inl (E.2.1 0, 7, .inl a_dDays)), (q 45, .inl (E.2.1 0, 7, .inl a_dFirst)), (q 46, .inl (E.2.1 0, 7, .inl a_dLast))]) [0, 1, 2, 3, 4, 5, 6, 7, 8] rfl
    have hD9 := hD.sub (ws' := [(h0, .inr (12, mG q i_taped i_size i_sort i_what i_at i_end i_worth i_faultKind i_faultPlace i_got i_worked (nI dl) i_isPlanned i_bestDone i_bestCost)), (q 51, .inl (E.2.1 0, 512, .inl n_9)), (q 52, .inl (E.2.1 0, 512, .inl n_10)), (q 49, .inl (E.2.1 0, 100, .inl a_flights)), (q 42, .inl (E.2.1 0, 7, .inl a_dFrom)), (q 43, .inl (E.2.1 0, 7, .inl a_dTo)), (q 44, .inl (E.2.1 0, 7, .inl a_dDays)), (q 45, .inl (E.2.1 0, 7, .inl a_dFirst)), (q 46, .inl (E.2.1 0, 7, .inl a_dLast))]) [0, 1, 2, 3, 4, 5, 6, 7, 8] (by decide) rfl
    exact W.vret hx hb hr (fun t ht hW => ⟨⟨(n_9, n_10), rfl, trivial, hI_order, by rw [ht]; exact hP9, hD9⟩, hS.F ht⟩) hS.2.2 dX12_tries_246
  · refine lv_iload hx hb dX12_tries_21 (lv_at hl 7 rfl) ?_
    refine lv_aload_n hx hb dX12_tries_23 rfl (lv_at hl 1 rfl) ?_
    refine va_get (D := E.1) (ci := 12) (v := .ref (q 51)) (C := RX12) (T := TX12) (N := 59) hx hb hts inX12 hown hK hP 0 rfl rfl 51 (by decide) fl130 (fun _ h9 => h9) rfl dX12_tries_24 ?_
    refine lv_iload hx hb dX12_tries_27 (lv_at hl 0 rfl) ?_
    refine va_iald hx hb hK hP 1 0 rfl rfl hi_3 dX12_tries_29 ?_
    refine lv_topi (fun x_11 ex_11 => ?_)
    refine lv_icmp_lt (tgt := 57) hx hb dX12_tries_30 (by decide) (fun c_12 => ?_) (fun c_12 => ?_)
    · refine lv_aload_n hx hb dX12_tries_57 rfl (lv_at hl 1 rfl) ?_
      refine va_get (D := E.1) (ci := 12) (v := .ref (q 51)) (C := RX12) (T := TX12) (N := 59) hx hb hts inX12 hown hK hP 0 rfl rfl 51 (by decide) fl130 (fun _ h9 => h9) rfl dX12_tries_58 ?_
      refine lv_iload hx hb dX12_tries_61 (lv_at hl 0 rfl) ?_
      refine lv_iload hx hb dX12_tries_63 (lv_at hl 7 rfl) ?_
      refine va_iast hx hb hK hP hD hS 1 0 rfl rfl hi_3 dX12_tries_65 (fun H locs hP hD hS => ?_)
      have hP : va_P E.1 vwCl [(h0, .inr (12, mG q i_taped i_size i_sort i_what i_at i_end i_worth i_faultKind i_faultPlace i_got i_worked (nI dl) i_isPlanned i_bestDone i_bestCost)), (q 51, .inl (E.2.1 0, 512, .inl (upd a_least (nI ((128 * cr) + se_)).toNatClampNeg co_))), (q 52, .inl (E.2.1 0, 512, .inl a_order)), (q 49, .inl (E.2.1 0, 100, .inl a_flights)), (q 42, .inl (E.2.1 0, 7, .inl a_dFrom)), (q 43, .inl (E.2.1 0, 7, .inl a_dTo)), (q 44, .inl (E.2.1 0, 7, .inl a_dDays)), (q 45, .inl (E.2.1 0, 7, .inl a_dFirst)), (q 46, .inl (E.2.1 0, 7, .inl a_dLast))] H := hP
      have hD : va_D A [(h0, .inr (12, mG q i_taped i_size i_sort i_what i_at i_end i_worth i_faultKind i_faultPlace i_got i_worked (nI dl) i_isPlanned i_bestDone i_bestCost)), (q 51, .inl (E.2.1 0, 512, .inl (upd a_least (nI ((128 * cr) + se_)).toNatClampNeg co_))), (q 52, .inl (E.2.1 0, 512, .inl a_order)), (q 49, .inl (E.2.1 0, 100, .inl a_flights)), (q 42, .inl (E.2.1 0, 7, .inl a_dFrom)), (q 43, .inl (E.2.1 0, 7, .inl a_dTo)), (q 44, .inl (E.2.1 0, 7, .inl a_dDays)), (q 45, .inl (E.2.1 0, 7, .inl a_dFirst)), (q 46, .inl (E.2.1 0, 7, .inl a_dLast))] := hD
      obtain ⟨f_13, ef_13⟩ : ∃ g : Nat → Int32, g = upd a_least (nI ((128 * cr) + se_)).toNatClampNeg co_ := ⟨_, rfl⟩
      rw [← ef_13] at hP hD
      refine lv_aload_n hx hb dX12_tries_66 rfl (lv_at hl 1 rfl) ?_
      refine va_get (D := E.1) (ci := 12) (v := .ref (q 52)) (C := RX12) (T := TX12) (N := 59) hx hb hts inX12 hown hK hP 0 rfl rfl 52 (by decide) fl133 (fun _ h9 => h9) rfl dX12_tries_67 ?_
      refine lv_iload hx hb dX12_tries_70 (lv_at hl 0 rfl) ?_
      refine lv_iload hx hb dX12_tries_72 (lv_at hl 6 rfl) ?_
      refine va_iast hx hb hK hP hD hS 2 0 rfl rfl hi_3 dX12_tries_74 (fun H locs hP hD hS => ?_)
      have hP : va_P E.1 vwCl [(h0, .inr (12, mG q i_taped i_size i_sort i_what i_at i_end i_worth i_faultKind i_faultPlace i_got i_worked (nI dl) i_isPlanned i_bestDone i_bestCost)), (q 51, .inl (E.2.1 0, 512, .inl f_13)), (q 52, .inl (E.2.1 0, 512, .inl (upd a_order (nI ((128 * cr) + se_)).toNatClampNeg (nI ro)))), (q 49, .inl (E.2.1 0, 100, .inl a_flights)), (q 42, .inl (E.2.1 0, 7, .inl a_dFrom)), (q 43, .inl (E.2.1 0, 7, .inl a_dTo)), (q 44, .inl (E.2.1 0, 7, .inl a_dDays)), (q 45, .inl (E.2.1 0, 7, .inl a_dFirst)), (q 46, .inl (E.2.1 0, 7, .inl a_dLast))] H := hP
      have hD : va_D A [(h0, .inr (12, mG q i_taped i_size i_sort i_what i_at i_end i_worth i_faultKind i_faultPlace i_got i_worked (nI dl) i_isPlanned i_bestDone i_bestCost)), (q 51, .inl (E.2.1 0, 512, .inl f_13)), (q 52, .inl (E.2.1 0, 512, .inl (upd a_order (nI ((128 * cr) + se_)).toNatClampNeg (nI ro)))), (q 49, .inl (E.2.1 0, 100, .inl a_flights)), (q 42, .inl (E.2.1 0, 7, .inl a_dFrom)), (q 43, .inl (E.2.1 0, 7, .inl a_dTo)), (q 44, .inl (E.2.1 0, 7, .inl a_dDays)), (q 45, .inl (E.2.1 0, 7, .inl a_dFirst)), (q 46, .inl (E.2.1 0, 7, .inl a_dLast))] := hD
      obtain ⟨f_14, ef_14⟩ : ∃ g : Nat → Int32, g = upd a_order (nI ((128 * cr) + se_)).toNatClampNeg (nI ro) := ⟨_, rfl⟩
      rw [← ef_14] at hP hD
      have hI_15 : ∀ k : Nat, k < 512 → digOK (f_14 k) := by rw [ef_14]; exact all_upd (P := fun z => digOK z) hI_order (dg_OK hro (by decide))
      refine lv_iconst (v := 0) hx hb dX12_tries_75 (by decide) ?_
      refine lv_istore (lv' := [(8, .int 0), (7, .int (nI ((128 * cr) + se_))), (0, .ref h0), (1, .int (nI cr)), (2, .int (nI po)), (3, .int da), (4, .int (nI se_)), (5, .int (nI ro)), (6, .int co_)]) hx hb dX12_tries_76 hl (by decide) rfl (fun ls hl => ?_)
      have hPl := hP.sub (ws' := [(h0, .inr (12, mG q i_taped i_size i_sort i_what i_at i_end i_worth i_faultKind i_faultPlace i_got i_worked (nI dl) i_isPlanned i_bestDone i_bestCost)), (q 51, .inl (E.2.1 0, 512, .inl f_13)), (q 52, .inl (E.2.1 0, 512, .inl f_14)), (q 49, .inl (E.2.1 0, 100, .inl a_flights)), (q 42, .inl (E.2.1 0, 7, .inl a_dFrom)), (q 43, .inl (E.2.1 0, 7, .inl a_dTo)), (q 44, .inl (E.2.1 0, 7, .inl a_dDays)), (q 45, .inl (E.2.1 0, 7, .inl a_dFirst)), (q 46, .inl (E.2.1 0, 7, .inl a_dLast))]) [0, 1, 2, 3, 4, 5, 6, 7, 8] rfl
      have hDl := hD.sub (ws' := [(h0, .inr (12, mG q i_taped i_size i_sort i_what i_at i_end i_worth i_faultKind i_faultPlace i_got i_worked (nI dl) i_isPlanned i_bestDone i_bestCost)), (q 51, .inl (E.2.1 0, 512, .inl f_13)), (q 52, .inl (E.2.1 0, 512, .inl f_14)), (q 49, .inl (E.2.1 0, 100, .inl a_flights)), (q 42, .inl (E.2.1 0, 7, .inl a_dFrom)), (q 43, .inl (E.2.1 0, 7, .inl a_dTo)), (q 44, .inl (E.2.1 0, 7, .inl a_dDays)), (q 45, .inl (E.2.1 0, 7, .inl a_dFirst)), (q 46, .inl (E.2.1 0, 7, .inl a_dLast))]) [0, 1, 2, 3, 4, 5, 6, 7, 8] (by decide) rfl
      refine lm_tries0 E h0 q i_taped i_size i_sort i_what i_at i_end i_worth i_faultKind i_faultPlace i_got i_worked i_isPlanned i_bestDone i_bestCost dl cr po se_ ro da co_ a_flights a_dFrom a_dTo a_dDays a_dFirst a_dLast hx hb hml hown hts hkn hst hA (by omega) (by omega) (by omega) (by omega) hbc hro hI_dFrom hI_dTo (fun n_16 n_17 H locs ls hI_order hP hD hS hl => ?_) 9 0 f_13 f_14 _ _ _ (by omega) (by omega) hI_15 hPl hDl hS (lv_sub hl [2, 3, 4, 5, 6, 7, 8, 0] rfl)
      have hP : va_P E.1 vwCl [(h0, .inr (12, mG q i_taped i_size i_sort i_what i_at i_end i_worth i_faultKind i_faultPlace i_got i_worked (nI dl) i_isPlanned i_bestDone i_bestCost)), (q 51, .inl (E.2.1 0, 512, .inl n_16)), (q 52, .inl (E.2.1 0, 512, .inl n_17)), (q 49, .inl (E.2.1 0, 100, .inl a_flights)), (q 42, .inl (E.2.1 0, 7, .inl a_dFrom)), (q 43, .inl (E.2.1 0, 7, .inl a_dTo)), (q 44, .inl (E.2.1 0, 7, .inl a_dDays)), (q 45, .inl (E.2.1 0, 7, .inl a_dFirst)), (q 46, .inl (E.2.1 0, 7, .inl a_dLast))] H := hP
      have hD : va_D A [(h0, .inr (12, mG q i_taped i_size i_sort i_what i_at i_end i_worth i_faultKind i_faultPlace i_got i_worked (nI dl) i_isPlanned i_bestDone i_bestCost)), (q 51, .inl (E.2.1 0, 512, .inl n_16)), (q 52, .inl (E.2.1 0, 512, .inl n_17)), (q 49, .inl (E.2.1 0, 100, .inl a_flights)), (q 42, .inl (E.2.1 0, 7, .inl a_dFrom)), (q 43, .inl (E.2.1 0, 7, .inl a_dTo)), (q 44, .inl (E.2.1 0, 7, .inl a_dDays)), (q 45, .inl (E.2.1 0, 7, .inl a_dFirst)), (q 46, .inl (E.2.1 0, 7, .inl a_dLast))] := hD
      have hP9 := hP.sub (ws' := [(h0, .inr (12, mG q i_taped i_size i_sort i_what i_at i_end i_worth i_faultKind i_faultPlace i_got i_worked (nI dl) i_isPlanned i_bestDone i_bestCost)), (q 51, .inl (E.2.1 0, 512, .inl n_16)), (q 52, .inl (E.2.1 0, 512, .inl n_17)), (q 49, .inl (E.2.1 0, 100, .inl a_flights)), (q 42, .inl (E.2.1 0, 7, .inl a_dFrom)), (q 43, .inl (E.2.1 0, 7, .inl a_dTo)), (q 44, .inl (E.2.1 0, 7, .inl a_dDays)), (q 45, .inl (E.2.1 0, 7, .inl a_dFirst)), (q 46, .inl (E.2.1 0, 7, .inl a_dLast))]) [0, 1, 2, 3, 4, 5, 6, 7, 8] rfl
      have hD9 := hD.sub (ws' := [(h0, .inr (12, mG q i_taped i_size i_sort i_what i_at i_end i_worth i_faultKind i_faultPlace i_got i_worked (nI dl) i_isPlanned i_bestDone i_bestCost)), (q 51, .inl (E.2.1 0, 512, .inl n_16)), (q 52, .inl (E.2.1 0, 512, .inl n_17)), (q 49, .inl (E.2.1 0, 100, .inl a_flights)), (q 42, .inl (E.2.1 0, 7, .inl a_dFrom)), (q 43, .inl (E.2.1 0, 7, .inl a_dTo)), (q 44, .inl (E.2.1 0, 7, .inl a_dDays)), (q 45, .inl (E.2.1 0, 7, .inl a_dFirst)), (q 46, .inl (E.2.1 0, 7, .inl a_dLast))]) [0, 1, 2, 3, 4, 5, 6, 7, 8] (by decide) rfl
      exact W.vret hx hb hr (fun t ht hW => ⟨⟨(n_16, n_17), rfl, trivial, hI_order, by rw [ht]; exact hP9, hD9⟩, hS.F ht⟩) hS.2.2 dX12_tries_246
    · refine lv_iload hx hb dX12_tries_33 (lv_at hl 7 rfl) ?_
      refine lv_aload_n hx hb dX12_tries_35 rfl (lv_at hl 1 rfl) ?_
      refine va_get (D := E.1) (ci := 12) (v := .ref (q 51)) (C := RX12) (T := TX12) (N := 59) hx hb hts inX12 hown hK hP 0 rfl rfl 51 (by decide) fl130 (fun _ h9 => h9) rfl dX12_tries_36 ?_
      refine lv_iload hx hb dX12_tries_39 (lv_at hl 0 rfl) ?_
      refine va_iald hx hb hK hP 1 0 rfl rfl hi_3 dX12_tries_41 ?_
      refine lv_topi (fun x_18 ex_18 => ?_)
      refine lv_icmp_ne (tgt := 75) hx hb dX12_tries_42 (by decide) (fun c_19 => ?_) (fun c_19 => ?_)
      · refine lv_iconst (v := 0) hx hb dX12_tries_75 (by decide) ?_
        refine lv_istore (lv' := [(8, .int 0), (7, .int (nI ((128 * cr) + se_))), (0, .ref h0), (1, .int (nI cr)), (2, .int (nI po)), (3, .int da), (4, .int (nI se_)), (5, .int (nI ro)), (6, .int co_)]) hx hb dX12_tries_76 hl (by decide) rfl (fun ls hl => ?_)
        have hPl := hP.sub (ws' := [(h0, .inr (12, mG q i_taped i_size i_sort i_what i_at i_end i_worth i_faultKind i_faultPlace i_got i_worked (nI dl) i_isPlanned i_bestDone i_bestCost)), (q 51, .inl (E.2.1 0, 512, .inl a_least)), (q 52, .inl (E.2.1 0, 512, .inl a_order)), (q 49, .inl (E.2.1 0, 100, .inl a_flights)), (q 42, .inl (E.2.1 0, 7, .inl a_dFrom)), (q 43, .inl (E.2.1 0, 7, .inl a_dTo)), (q 44, .inl (E.2.1 0, 7, .inl a_dDays)), (q 45, .inl (E.2.1 0, 7, .inl a_dFirst)), (q 46, .inl (E.2.1 0, 7, .inl a_dLast))]) [0, 1, 2, 3, 4, 5, 6, 7, 8] rfl
        have hDl := hD.sub (ws' := [(h0, .inr (12, mG q i_taped i_size i_sort i_what i_at i_end i_worth i_faultKind i_faultPlace i_got i_worked (nI dl) i_isPlanned i_bestDone i_bestCost)), (q 51, .inl (E.2.1 0, 512, .inl a_least)), (q 52, .inl (E.2.1 0, 512, .inl a_order)), (q 49, .inl (E.2.1 0, 100, .inl a_flights)), (q 42, .inl (E.2.1 0, 7, .inl a_dFrom)), (q 43, .inl (E.2.1 0, 7, .inl a_dTo)), (q 44, .inl (E.2.1 0, 7, .inl a_dDays)), (q 45, .inl (E.2.1 0, 7, .inl a_dFirst)), (q 46, .inl (E.2.1 0, 7, .inl a_dLast))]) [0, 1, 2, 3, 4, 5, 6, 7, 8] (by decide) rfl
        refine lm_tries0 E h0 q i_taped i_size i_sort i_what i_at i_end i_worth i_faultKind i_faultPlace i_got i_worked i_isPlanned i_bestDone i_bestCost dl cr po se_ ro da co_ a_flights a_dFrom a_dTo a_dDays a_dFirst a_dLast hx hb hml hown hts hkn hst hA (by omega) (by omega) (by omega) (by omega) hbc hro hI_dFrom hI_dTo (fun n_20 n_21 H locs ls hI_order hP hD hS hl => ?_) 9 0 a_least a_order _ _ _ (by omega) (by omega) hI_order hPl hDl hS (lv_sub hl [2, 3, 4, 5, 6, 7, 8, 0] rfl)
        have hP : va_P E.1 vwCl [(h0, .inr (12, mG q i_taped i_size i_sort i_what i_at i_end i_worth i_faultKind i_faultPlace i_got i_worked (nI dl) i_isPlanned i_bestDone i_bestCost)), (q 51, .inl (E.2.1 0, 512, .inl n_20)), (q 52, .inl (E.2.1 0, 512, .inl n_21)), (q 49, .inl (E.2.1 0, 100, .inl a_flights)), (q 42, .inl (E.2.1 0, 7, .inl a_dFrom)), (q 43, .inl (E.2.1 0, 7, .inl a_dTo)), (q 44, .inl (E.2.1 0, 7, .inl a_dDays)), (q 45, .inl (E.2.1 0, 7, .inl a_dFirst)), (q 46, .inl (E.2.1 0, 7, .inl a_dLast))] H := hP
        have hD : va_D A [(h0, .inr (12, mG q i_taped i_size i_sort i_what i_at i_end i_worth i_faultKind i_faultPlace i_got i_worked (nI dl) i_isPlanned i_bestDone i_bestCost)), (q 51, .inl (E.2.1 0, 512, .inl n_20)), (q 52, .inl (E.2.1 0, 512, .inl n_21)), (q 49, .inl (E.2.1 0, 100, .inl a_flights)), (q 42, .inl (E.2.1 0, 7, .inl a_dFrom)), (q 43, .inl (E.2.1 0, 7, .inl a_dTo)), (q 44, .inl (E.2.1 0, 7, .inl a_dDays)), (q 45, .inl (E.2.1 0, 7, .inl a_dFirst)), (q 46, .inl (E.2.1 0, 7, .inl a_dLast))] := hD
        have hP9 := hP.sub (ws' := [(h0, .inr (12, mG q i_taped i_size i_sort i_what i_at i_end i_worth i_faultKind i_faultPlace i_got i_worked (nI dl) i_isPlanned i_bestDone i_bestCost)), (q 51, .inl (E.2.1 0, 512, .inl n_20)), (q 52, .inl (E.2.1 0, 512, .inl n_21)), (q 49, .inl (E.2.1 0, 100, .inl a_flights)), (q 42, .inl (E.2.1 0, 7, .inl a_dFrom)), (q 43, .inl (E.2.1 0, 7, .inl a_dTo)), (q 44, .inl (E.2.1 0, 7, .inl a_dDays)), (q 45, .inl (E.2.1 0, 7, .inl a_dFirst)), (q 46, .inl (E.2.1 0, 7, .inl a_dLast))]) [0, 1, 2, 3, 4, 5, 6, 7, 8] rfl
        have hD9 := hD.sub (ws' := [(h0, .inr (12, mG q i_taped i_size i_sort i_what i_at i_end i_worth i_faultKind i_faultPlace i_got i_worked (nI dl) i_isPlanned i_bestDone i_bestCost)), (q 51, .inl (E.2.1 0, 512, .inl n_20)), (q 52, .inl (E.2.1 0, 512, .inl n_21)), (q 49, .inl (E.2.1 0, 100, .inl a_flights)), (q 42, .inl (E.2.1 0, 7, .inl a_dFrom)), (q 43, .inl (E.2.1 0, 7, .inl a_dTo)), (q 44, .inl (E.2.1 0, 7, .inl a_dDays)), (q 45, .inl (E.2.1 0, 7, .inl a_dFirst)), (q 46, .inl (E.2.1 0, 7, .inl a_dLast))]) [0, 1, 2, 3, 4, 5, 6, 7, 8] (by decide) rfl
        exact W.vret hx hb hr (fun t ht hW => ⟨⟨(n_20, n_21), rfl, trivial, hI_order, by rw [ht]; exact hP9, hD9⟩, hS.F ht⟩) hS.2.2 dX12_tries_246
      · refine lv_iload hx hb dX12_tries_45 (lv_at hl 6 rfl) ?_
        refine lv_aload_n hx hb dX12_tries_47 rfl (lv_at hl 1 rfl) ?_
        refine va_get (D := E.1) (ci := 12) (v := .ref (q 52)) (C := RX12) (T := TX12) (N := 59) hx hb hts inX12 hown hK hP 0 rfl rfl 52 (by decide) fl133 (fun _ h9 => h9) rfl dX12_tries_48 ?_
        refine lv_iload hx hb dX12_tries_51 (lv_at hl 0 rfl) ?_
        refine va_iald hx hb hK hP 2 0 rfl rfl hi_3 dX12_tries_53 ?_
        refine lv_topi (fun x_22 ex_22 => ?_)
        have hv_23 : digOK x_22 := by rw [ex_22]; exact hI_order _ (vin_cl hi_3)
        refine lv_icmp_ge (tgt := 75) hx hb dX12_tries_54 (by decide) (fun c_24 => ?_) (fun c_24 => ?_)
        · refine lv_iconst (v := 0) hx hb dX12_tries_75 (by decide) ?_
          refine lv_istore (lv' := [(8, .int 0), (7, .int (nI ((128 * cr) + se_))), (0, .ref h0), (1, .int (nI cr)), (2, .int (nI po)), (3, .int da), (4, .int (nI se_)), (5, .int (nI ro)), (6, .int co_)]) hx hb dX12_tries_76 hl (by decide) rfl (fun ls hl => ?_)
          have hPl := hP.sub (ws' := [(h0, .inr (12, mG q i_taped i_size i_sort i_what i_at i_end i_worth i_faultKind i_faultPlace i_got i_worked (nI dl) i_isPlanned i_bestDone i_bestCost)), (q 51, .inl (E.2.1 0, 512, .inl a_least)), (q 52, .inl (E.2.1 0, 512, .inl a_order)), (q 49, .inl (E.2.1 0, 100, .inl a_flights)), (q 42, .inl (E.2.1 0, 7, .inl a_dFrom)), (q 43, .inl (E.2.1 0, 7, .inl a_dTo)), (q 44, .inl (E.2.1 0, 7, .inl a_dDays)), (q 45, .inl (E.2.1 0, 7, .inl a_dFirst)), (q 46, .inl (E.2.1 0, 7, .inl a_dLast))]) [0, 1, 2, 3, 4, 5, 6, 7, 8] rfl
          have hDl := hD.sub (ws' := [(h0, .inr (12, mG q i_taped i_size i_sort i_what i_at i_end i_worth i_faultKind i_faultPlace i_got i_worked (nI dl) i_isPlanned i_bestDone i_bestCost)), (q 51, .inl (E.2.1 0, 512, .inl a_least)), (q 52, .inl (E.2.1 0, 512, .inl a_order)), (q 49, .inl (E.2.1 0, 100, .inl a_flights)), (q 42, .inl (E.2.1 0, 7, .inl a_dFrom)), (q 43, .inl (E.2.1 0, 7, .inl a_dTo)), (q 44, .inl (E.2.1 0, 7, .inl a_dDays)), (q 45, .inl (E.2.1 0, 7, .inl a_dFirst)), (q 46, .inl (E.2.1 0, 7, .inl a_dLast))]) [0, 1, 2, 3, 4, 5, 6, 7, 8] (by decide) rfl
          refine lm_tries0 E h0 q i_taped i_size i_sort i_what i_at i_end i_worth i_faultKind i_faultPlace i_got i_worked i_isPlanned i_bestDone i_bestCost dl cr po se_ ro da co_ a_flights a_dFrom a_dTo a_dDays a_dFirst a_dLast hx hb hml hown hts hkn hst hA (by omega) (by omega) (by omega) (by omega) hbc hro hI_dFrom hI_dTo (fun n_25 n_26 H locs ls hI_order hP hD hS hl => ?_) 9 0 a_least a_order _ _ _ (by omega) (by omega) hI_order hPl hDl hS (lv_sub hl [2, 3, 4, 5, 6, 7, 8, 0] rfl)
          have hP : va_P E.1 vwCl [(h0, .inr (12, mG q i_taped i_size i_sort i_what i_at i_end i_worth i_faultKind i_faultPlace i_got i_worked (nI dl) i_isPlanned i_bestDone i_bestCost)), (q 51, .inl (E.2.1 0, 512, .inl n_25)), (q 52, .inl (E.2.1 0, 512, .inl n_26)), (q 49, .inl (E.2.1 0, 100, .inl a_flights)), (q 42, .inl (E.2.1 0, 7, .inl a_dFrom)), (q 43, .inl (E.2.1 0, 7, .inl a_dTo)), (q 44, .inl (E.2.1 0, 7, .inl a_dDays)), (q 45, .inl (E.2.1 0, 7, .inl a_dFirst)), (q 46, .inl (E.2.1 0, 7, .inl a_dLast))] H := hP
          have hD : va_D A [(h0, .inr (12, mG q i_taped i_size i_sort i_what i_at i_end i_worth i_faultKind i_faultPlace i_got i_worked (nI dl) i_isPlanned i_bestDone i_bestCost)), (q 51, .inl (E.2.1 0, 512, .inl n_25)), (q 52, .inl (E.2.1 0, 512, .inl n_26)), (q 49, .inl (E.2.1 0, 100, .inl a_flights)), (q 42, .inl (E.2.1 0, 7, .inl a_dFrom)), (q 43, .inl (E.2.1 0, 7, .inl a_dTo)), (q 44, .inl (E.2.1 0, 7, .inl a_dDays)), (q 45, .inl (E.2.1 0, 7, .inl a_dFirst)), (q 46, .inl (E.2.1 0, 7, .inl a_dLast))] := hD
          have hP9 := hP.sub (ws' := [(h0, .inr (12, mG q i_taped i_size i_sort i_what i_at i_end i_worth i_faultKind i_faultPlace i_got i_worked (nI dl) i_isPlanned i_bestDone i_bestCost)), (q 51, .inl (E.2.1 0, 512, .inl n_25)), (q 52, .inl (E.2.1 0, 512, .inl n_26)), (q 49, .inl (E.2.1 0, 100, .inl a_flights)), (q 42, .inl (E.2.1 0, 7, .inl a_dFrom)), (q 43, .inl (E.2.1 0, 7, .inl a_dTo)), (q 44, .inl (E.2.1 0, 7, .inl a_dDays)), (q 45, .inl (E.2.1 0, 7, .inl a_dFirst)), (q 46, .inl (E.2.1 0, 7, .inl a_dLast))]) [0, 1, 2, 3, 4, 5, 6, 7, 8] rfl
          have hD9 := hD.sub (ws' := [(h0, .inr (12, mG q i_taped i_size i_sort i_what i_at i_end i_worth i_faultKind i_faultPlace i_got i_worked (nI dl) i_isPlanned i_bestDone i_bestCost)), (q 51, .inl (E.2.1 0, 512, .inl n_25)), (q 52, .inl (E.2.1 0, 512, .inl n_26)), (q 49, .inl (E.2.1 0, 100, .inl a_flights)), (q 42, .inl (E.2.1 0, 7, .inl a_dFrom)), (q 43, .inl (E.2.1 0, 7, .inl a_dTo)), (q 44, .inl (E.2.1 0, 7, .inl a_dDays)), (q 45, .inl (E.2.1 0, 7, .inl a_dFirst)), (q 46, .inl (E.2.1 0, 7, .inl a_dLast))]) [0, 1, 2, 3, 4, 5, 6, 7, 8] (by decide) rfl
          exact W.vret hx hb hr (fun t ht hW => ⟨⟨(n_25, n_26), rfl, trivial, hI_order, by rw [ht]; exact hP9, hD9⟩, hS.F ht⟩) hS.2.2 dX12_tries_246
        · refine lv_aload_n hx hb dX12_tries_57 rfl (lv_at hl 1 rfl) ?_
          refine va_get (D := E.1) (ci := 12) (v := .ref (q 51)) (C := RX12) (T := TX12) (N := 59) hx hb hts inX12 hown hK hP 0 rfl rfl 51 (by decide) fl130 (fun _ h9 => h9) rfl dX12_tries_58 ?_
          refine lv_iload hx hb dX12_tries_61 (lv_at hl 0 rfl) ?_
          refine lv_iload hx hb dX12_tries_63 (lv_at hl 7 rfl) ?_
          refine va_iast hx hb hK hP hD hS 1 0 rfl rfl hi_3 dX12_tries_65 (fun H locs hP hD hS => ?_)
          have hP : va_P E.1 vwCl [(h0, .inr (12, mG q i_taped i_size i_sort i_what i_at i_end i_worth i_faultKind i_faultPlace i_got i_worked (nI dl) i_isPlanned i_bestDone i_bestCost)), (q 51, .inl (E.2.1 0, 512, .inl (upd a_least (nI ((128 * cr) + se_)).toNatClampNeg co_))), (q 52, .inl (E.2.1 0, 512, .inl a_order)), (q 49, .inl (E.2.1 0, 100, .inl a_flights)), (q 42, .inl (E.2.1 0, 7, .inl a_dFrom)), (q 43, .inl (E.2.1 0, 7, .inl a_dTo)), (q 44, .inl (E.2.1 0, 7, .inl a_dDays)), (q 45, .inl (E.2.1 0, 7, .inl a_dFirst)), (q 46, .inl (E.2.1 0, 7, .inl a_dLast))] H := hP
          have hD : va_D A [(h0, .inr (12, mG q i_taped i_size i_sort i_what i_at i_end i_worth i_faultKind i_faultPlace i_got i_worked (nI dl) i_isPlanned i_bestDone i_bestCost)), (q 51, .inl (E.2.1 0, 512, .inl (upd a_least (nI ((128 * cr) + se_)).toNatClampNeg co_))), (q 52, .inl (E.2.1 0, 512, .inl a_order)), (q 49, .inl (E.2.1 0, 100, .inl a_flights)), (q 42, .inl (E.2.1 0, 7, .inl a_dFrom)), (q 43, .inl (E.2.1 0, 7, .inl a_dTo)), (q 44, .inl (E.2.1 0, 7, .inl a_dDays)), (q 45, .inl (E.2.1 0, 7, .inl a_dFirst)), (q 46, .inl (E.2.1 0, 7, .inl a_dLast))] := hD
          obtain ⟨f_27, ef_27⟩ : ∃ g : Nat → Int32, g = upd a_least (nI ((128 * cr) + se_)).toNatClampNeg co_ := ⟨_, rfl⟩
          rw [← ef_27] at hP hD
          refine lv_aload_n hx hb dX12_tries_66 rfl (lv_at hl 1 rfl) ?_
          refine va_get (D := E.1) (ci := 12) (v := .ref (q 52)) (C := RX12) (T := TX12) (N := 59) hx hb hts inX12 hown hK hP 0 rfl rfl 52 (by decide) fl133 (fun _ h9 => h9) rfl dX12_tries_67 ?_
          refine lv_iload hx hb dX12_tries_70 (lv_at hl 0 rfl) ?_
          refine lv_iload hx hb dX12_tries_72 (lv_at hl 6 rfl) ?_
          refine va_iast hx hb hK hP hD hS 2 0 rfl rfl hi_3 dX12_tries_74 (fun H locs hP hD hS => ?_)
          have hP : va_P E.1 vwCl [(h0, .inr (12, mG q i_taped i_size i_sort i_what i_at i_end i_worth i_faultKind i_faultPlace i_got i_worked (nI dl) i_isPlanned i_bestDone i_bestCost)), (q 51, .inl (E.2.1 0, 512, .inl f_27)), (q 52, .inl (E.2.1 0, 512, .inl (upd a_order (nI ((128 * cr) + se_)).toNatClampNeg (nI ro)))), (q 49, .inl (E.2.1 0, 100, .inl a_flights)), (q 42, .inl (E.2.1 0, 7, .inl a_dFrom)), (q 43, .inl (E.2.1 0, 7, .inl a_dTo)), (q 44, .inl (E.2.1 0, 7, .inl a_dDays)), (q 45, .inl (E.2.1 0, 7, .inl a_dFirst)), (q 46, .inl (E.2.1 0, 7, .inl a_dLast))] H := hP
          have hD : va_D A [(h0, .inr (12, mG q i_taped i_size i_sort i_what i_at i_end i_worth i_faultKind i_faultPlace i_got i_worked (nI dl) i_isPlanned i_bestDone i_bestCost)), (q 51, .inl (E.2.1 0, 512, .inl f_27)), (q 52, .inl (E.2.1 0, 512, .inl (upd a_order (nI ((128 * cr) + se_)).toNatClampNeg (nI ro)))), (q 49, .inl (E.2.1 0, 100, .inl a_flights)), (q 42, .inl (E.2.1 0, 7, .inl a_dFrom)), (q 43, .inl (E.2.1 0, 7, .inl a_dTo)), (q 44, .inl (E.2.1 0, 7, .inl a_dDays)), (q 45, .inl (E.2.1 0, 7, .inl a_dFirst)), (q 46, .inl (E.2.1 0, 7, .inl a_dLast))] := hD
          obtain ⟨f_28, ef_28⟩ : ∃ g : Nat → Int32, g = upd a_order (nI ((128 * cr) + se_)).toNatClampNeg (nI ro) := ⟨_, rfl⟩
          rw [← ef_28] at hP hD
          have hI_29 : ∀ k : Nat, k < 512 → digOK (f_28 k) := by rw [ef_28]; exact all_upd (P := fun z => digOK z) hI_order (dg_OK hro (by decide))
          refine lv_iconst (v := 0) hx hb dX12_tries_75 (by decide) ?_
          refine lv_istore (lv' := [(8, .int 0), (7, .int (nI ((128 * cr) + se_))), (0, .ref h0), (1, .int (nI cr)), (2, .int (nI po)), (3, .int da), (4, .int (nI se_)), (5, .int (nI ro)), (6, .int co_)]) hx hb dX12_tries_76 hl (by decide) rfl (fun ls hl => ?_)
          have hPl := hP.sub (ws' := [(h0, .inr (12, mG q i_taped i_size i_sort i_what i_at i_end i_worth i_faultKind i_faultPlace i_got i_worked (nI dl) i_isPlanned i_bestDone i_bestCost)), (q 51, .inl (E.2.1 0, 512, .inl f_27)), (q 52, .inl (E.2.1 0, 512, .inl f_28)), (q 49, .inl (E.2.1 0, 100, .inl a_flights)), (q 42, .inl (E.2.1 0, 7, .inl a_dFrom)), (q 43, .inl (E.2.1 0, 7, .inl a_dTo)), (q 44, .inl (E.2.1 0, 7, .inl a_dDays)), (q 45, .inl (E.2.1 0, 7, .inl a_dFirst)), (q 46, .inl (E.2.1 0, 7, .inl a_dLast))]) [0, 1, 2, 3, 4, 5, 6, 7, 8] rfl
          have hDl := hD.sub (ws' := [(h0, .inr (12, mG q i_taped i_size i_sort i_what i_at i_end i_worth i_faultKind i_faultPlace i_got i_worked (nI dl) i_isPlanned i_bestDone i_bestCost)), (q 51, .inl (E.2.1 0, 512, .inl f_27)), (q 52, .inl (E.2.1 0, 512, .inl f_28)), (q 49, .inl (E.2.1 0, 100, .inl a_flights)), (q 42, .inl (E.2.1 0, 7, .inl a_dFrom)), (q 43, .inl (E.2.1 0, 7, .inl a_dTo)), (q 44, .inl (E.2.1 0, 7, .inl a_dDays)), (q 45, .inl (E.2.1 0, 7, .inl a_dFirst)), (q 46, .inl (E.2.1 0, 7, .inl a_dLast))]) [0, 1, 2, 3, 4, 5, 6, 7, 8] (by decide) rfl
          refine lm_tries0 E h0 q i_taped i_size i_sort i_what i_at i_end i_worth i_faultKind i_faultPlace i_got i_worked i_isPlanned i_bestDone i_bestCost dl cr po se_ ro da co_ a_flights a_dFrom a_dTo a_dDays a_dFirst a_dLast hx hb hml hown hts hkn hst hA (by omega) (by omega) (by omega) (by omega) hbc hro hI_dFrom hI_dTo (fun n_30 n_31 H locs ls hI_order hP hD hS hl => ?_) 9 0 f_27 f_28 _ _ _ (by omega) (by omega) hI_29 hPl hDl hS (lv_sub hl [2, 3, 4, 5, 6, 7, 8, 0] rfl)
          have hP : va_P E.1 vwCl [(h0, .inr (12, mG q i_taped i_size i_sort i_what i_at i_end i_worth i_faultKind i_faultPlace i_got i_worked (nI dl) i_isPlanned i_bestDone i_bestCost)), (q 51, .inl (E.2.1 0, 512, .inl n_30)), (q 52, .inl (E.2.1 0, 512, .inl n_31)), (q 49, .inl (E.2.1 0, 100, .inl a_flights)), (q 42, .inl (E.2.1 0, 7, .inl a_dFrom)), (q 43, .inl (E.2.1 0, 7, .inl a_dTo)), (q 44, .inl (E.2.1 0, 7, .inl a_dDays)), (q 45, .inl (E.2.1 0, 7, .inl a_dFirst)), (q 46, .inl (E.2.1 0, 7, .inl a_dLast))] H := hP
          have hD : va_D A [(h0, .inr (12, mG q i_taped i_size i_sort i_what i_at i_end i_worth i_faultKind i_faultPlace i_got i_worked (nI dl) i_isPlanned i_bestDone i_bestCost)), (q 51, .inl (E.2.1 0, 512, .inl n_30)), (q 52, .inl (E.2.1 0, 512, .inl n_31)), (q 49, .inl (E.2.1 0, 100, .inl a_flights)), (q 42, .inl (E.2.1 0, 7, .inl a_dFrom)), (q 43, .inl (E.2.1 0, 7, .inl a_dTo)), (q 44, .inl (E.2.1 0, 7, .inl a_dDays)), (q 45, .inl (E.2.1 0, 7, .inl a_dFirst)), (q 46, .inl (E.2.1 0, 7, .inl a_dLast))] := hD
          have hP9 := hP.sub (ws' := [(h0, .inr (12, mG q i_taped i_size i_sort i_what i_at i_end i_worth i_faultKind i_faultPlace i_got i_worked (nI dl) i_isPlanned i_bestDone i_bestCost)), (q 51, .inl (E.2.1 0, 512, .inl n_30)), (q 52, .inl (E.2.1 0, 512, .inl n_31)), (q 49, .inl (E.2.1 0, 100, .inl a_flights)), (q 42, .inl (E.2.1 0, 7, .inl a_dFrom)), (q 43, .inl (E.2.1 0, 7, .inl a_dTo)), (q 44, .inl (E.2.1 0, 7, .inl a_dDays)), (q 45, .inl (E.2.1 0, 7, .inl a_dFirst)), (q 46, .inl (E.2.1 0, 7, .inl a_dLast))]) [0, 1, 2, 3, 4, 5, 6, 7, 8] rfl
          have hD9 := hD.sub (ws' := [(h0, .inr (12, mG q i_taped i_size i_sort i_what i_at i_end i_worth i_faultKind i_faultPlace i_got i_worked (nI dl) i_isPlanned i_bestDone i_bestCost)), (q 51, .inl (E.2.1 0, 512, .inl n_30)), (q 52, .inl (E.2.1 0, 512, .inl n_31)), (q 49, .inl (E.2.1 0, 100, .inl a_flights)), (q 42, .inl (E.2.1 0, 7, .inl a_dFrom)), (q 43, .inl (E.2.1 0, 7, .inl a_dTo)), (q 44, .inl (E.2.1 0, 7, .inl a_dDays)), (q 45, .inl (E.2.1 0, 7, .inl a_dFirst)), (q 46, .inl (E.2.1 0, 7, .inl a_dLast))]) [0, 1, 2, 3, 4, 5, 6, 7, 8] (by decide) rfl
          exact W.vret hx hb hr (fun t ht hW => ⟨⟨(n_30, n_31), rfl, trivial, hI_order, by rw [ht]; exact hP9, hD9⟩, hS.F ht⟩) hS.2.2 dX12_tries_246
