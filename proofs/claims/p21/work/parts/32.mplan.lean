set_option maxHeartbeats 4000000 in
set_option maxRecDepth 100000 in
theorem lm_goes1 {p : Program} {l : Launch} {e : Env} {R : Room} {s : State} {m : MethodId} {args : Array Value} {below : List Frame} {meth : Method} {c : Code} {cells slots : Nat} {Q : State → Prop} {A : Nat → Prop} (E : vE) (h0 : Nat) (q : Nat → Nat) (i_taped : Int32) (i_size : Int32) (i_sort : Int32) (i_what : Int32) (i_at : Int32) (i_end : Int32) (i_worth : Int32) (i_faultKind : Int32) (i_faultPlace : Int32) (i_got : Int32) (i_worked : Int32) (i_isPlanned : Int32) (i_bestDone : Int32) (i_bestCost : Int32) (dl : Nat) (cr : Nat) (a_bestGiven : Nat → Int32) (a_order : Nat → Int32) (a_crewPort : Nat → Int32) (a_crewDay : Nat → Int32) (a_dFrom : Nat → Int32) (a_dTo : Nat → Int32) (a_dDays : Nat → Int32) (a_dFirst : Nat → Int32) (a_beginsOn : Nat → Int32) (hx : p.tables.exec = Jvm.exec) (hb : c.code = cX12_goes) (hml : c.maxLocals = 10) (hown : s.vm.findClass RX12 = some m.cls) (hts : ∀ w ∈ wsX12_goes, w.before args s = true) (hkn : kn E s) (hst : st E A s s.heap) (hA : ∀ q : Nat, s.heap.size ≤ q → A q) (hdl : dl ≤ 7) (hI_order : ∀ k : Nat, k < 512 → digOK (a_order k)) (hI_crewPort : ∀ k : Nat, k < 4 → inR (a_crewPort k) (-1) 9 = true) (hI_dFrom : ∀ k : Nat, k < 7 → inR (a_dFrom k) 0 9 = true) (hI_dTo : ∀ k : Nat, k < 7 → inR (a_dTo k) 0 9 = true) (kk : ∀ (sv : Nat) (mv : Nat) (H : Heap) (locs : List Loc) (ls : Array Slot), (sv < 128) → (mv ≤ 7) → va_P E.1 vwCl [(h0, .inr (12, mG q i_taped i_size i_sort i_what i_at i_end i_worth i_faultKind i_faultPlace i_got i_worked (nI dl) i_isPlanned i_bestDone i_bestCost)), (q 54, .inl (E.2.1 0, 7, .inl a_bestGiven)), (q 52, .inl (E.2.1 0, 512, .inl a_order)), (q 47, .inl (E.2.1 0, 4, .inl a_crewPort)), (q 48, .inl (E.2.1 0, 4, .inl a_crewDay)), (q 42, .inl (E.2.1 0, 7, .inl a_dFrom)), (q 43, .inl (E.2.1 0, 7, .inl a_dTo)), (q 44, .inl (E.2.1 0, 7, .inl a_dDays)), (q 45, .inl (E.2.1 0, 7, .inl a_dFirst)), (q 56, .inl (E.2.1 0, 7, .inl a_beginsOn))] H → va_D A [(h0, .inr (12, mG q i_taped i_size i_sort i_what i_at i_end i_worth i_faultKind i_faultPlace i_got i_worked (nI dl) i_isPlanned i_bestDone i_bestCost)), (q 54, .inl (E.2.1 0, 7, .inl a_bestGiven)), (q 52, .inl (E.2.1 0, 512, .inl a_order)), (q 47, .inl (E.2.1 0, 4, .inl a_crewPort)), (q 48, .inl (E.2.1 0, 4, .inl a_crewDay)), (q 42, .inl (E.2.1 0, 7, .inl a_dFrom)), (q 43, .inl (E.2.1 0, 7, .inl a_dTo)), (q 44, .inl (E.2.1 0, 7, .inl a_dDays)), (q 45, .inl (E.2.1 0, 7, .inl a_dFirst)), (q 56, .inl (E.2.1 0, 7, .inl a_beginsOn))] → va_S A s.heap H locs → lv_has ls 10 [(0, .ref h0), (1, .int (nI cr)), (2, .int (nI sv)), (3, .int (nI mv))] → W p l e R s m args below meth c H locs cells slots Q (F0 m 46 ls [])) : ∀ (n0 : Nat) (k : Nat) (sv : Nat) (mv : Nat) (H : Heap) (locs : List Loc) (ls : Array Slot), 8 - k < n0 → (k ≤ dl) → (sv < 128) → (mv ≤ k) → va_P E.1 vwCl [(h0, .inr (12, mG q i_taped i_size i_sort i_what i_at i_end i_worth i_faultKind i_faultPlace i_got i_worked (nI dl) i_isPlanned i_bestDone i_bestCost)), (q 54, .inl (E.2.1 0, 7, .inl a_bestGiven)), (q 52, .inl (E.2.1 0, 512, .inl a_order)), (q 47, .inl (E.2.1 0, 4, .inl a_crewPort)), (q 48, .inl (E.2.1 0, 4, .inl a_crewDay)), (q 42, .inl (E.2.1 0, 7, .inl a_dFrom)), (q 43, .inl (E.2.1 0, 7, .inl a_dTo)), (q 44, .inl (E.2.1 0, 7, .inl a_dDays)), (q 45, .inl (E.2.1 0, 7, .inl a_dFirst)), (q 56, .inl (E.2.1 0, 7, .inl a_beginsOn))] H → va_D A [(h0, .inr (12, mG q i_taped i_size i_sort i_what i_at i_end i_worth i_faultKind i_faultPlace i_got i_worked (nI dl) i_isPlanned i_bestDone i_bestCost)), (q 54, .inl (E.2.1 0, 7, .inl a_bestGiven)), (q 52, .inl (E.2.1 0, 512, .inl a_order)), (q 47, .inl (E.2.1 0, 4, .inl a_crewPort)), (q 48, .inl (E.2.1 0, 4, .inl a_crewDay)), (q 42, .inl (E.2.1 0, 7, .inl a_dFrom)), (q 43, .inl (E.2.1 0, 7, .inl a_dTo)), (q 44, .inl (E.2.1 0, 7, .inl a_dDays)), (q 45, .inl (E.2.1 0, 7, .inl a_dFirst)), (q 56, .inl (E.2.1 0, 7, .inl a_beginsOn))] → va_S A s.heap H locs → lv_has ls 10 [(0, .ref h0), (1, .int (nI cr)), (2, .int (nI sv)), (3, .int (nI mv)), (4, .int (nI k))] → W p l e R s m args below meth c H locs cells slots Q (F0 m 7 ls []) := by
  have hK := hkn.1
  have hAO := hkn.2.2.1
  have fl106 := hts (.fieldLink RX12 106 "BoatsHomeModel" "dFrom" "[I") (by first | exact List.mem_of_getElem? (i := 6) rfl | decide +kernel)
  have fl109 := hts (.fieldLink RX12 109 "BoatsHomeModel" "dTo" "[I") (by first | exact List.mem_of_getElem? (i := 10) rfl | decide +kernel)
  have fl112 := hts (.fieldLink RX12 112 "BoatsHomeModel" "dDays" "[I") (by first | exact List.mem_of_getElem? (i := 9) rfl | decide +kernel)
  have fl115 := hts (.fieldLink RX12 115 "BoatsHomeModel" "dFirst" "[I") (by first | exact List.mem_of_getElem? (i := 8) rfl | decide +kernel)
  have fl121 := hts (.fieldLink RX12 121 "BoatsHomeModel" "crewPort" "[I") (by first | exact List.mem_of_getElem? (i := 4) rfl | decide +kernel)
  have fl124 := hts (.fieldLink RX12 124 "BoatsHomeModel" "crewDay" "[I") (by first | exact List.mem_of_getElem? (i := 5) rfl | decide +kernel)
  have fl133 := hts (.fieldLink RX12 133 "BoatsHomeModel" "order" "[I") (by first | exact List.mem_of_getElem? (i := 3) rfl | decide +kernel)
  have fl139 := hts (.fieldLink RX12 139 "BoatsHomeModel" "bestGiven" "[I") (by first | exact List.mem_of_getElem? (i := 2) rfl | decide +kernel)
  have fl145 := hts (.fieldLink RX12 145 "BoatsHomeModel" "beginsOn" "[I") (by first | exact List.mem_of_getElem? (i := 7) rfl | decide +kernel)
  have fl289 := hts (.fieldLink RX12 289 "BoatsHomeModel" "deliveries" "I") (by first | exact List.mem_of_getElem? (i := 1) rfl | decide +kernel)
  have inX12 : ∀ w ∈ u_ws RX12 TX12 59, w ∈ wsX12_goes := by first | exact fun w h9 => (List.mem_cons_of_mem _ (List.mem_append_right _ h9)) | decide +kernel
  intro n0
  induction n0 with
  | zero =>
    intro k sv mv H locs ls hn0
    exact absurd hn0 (Nat.not_lt_zero _)
  | succ n0 ih =>
    intro k sv mv H locs ls hn0 hk hsv hmv hP hD hS hl
    refine lv_iload hx hb dX12_goes_7 (lv_at hl 4 rfl) ?_
    refine lv_aload_n hx hb dX12_goes_9 rfl (lv_at hl 0 rfl) ?_
    refine va_get (D := E.1) (ci := 12) (v := .int (nI dl)) (C := RX12) (T := TX12) (N := 59) hx hb hts inX12 hown hK hP 0 rfl rfl 41 (by decide) fl289 (fun _ h9 => h9) rfl dX12_goes_10 ?_
    refine lv_icmp_ge (tgt := 46) hx hb dX12_goes_13 (by decide) (fun c_1 => ?_) (fun c_1 => ?_)
    · exact kk sv mv _ _ _ hsv (by omega) (hP.sub [0, 1, 2, 3, 4, 5, 6, 7, 8, 9] rfl) (hD.sub [0, 1, 2, 3, 4, 5, 6, 7, 8, 9] (by decide) rfl) hS (lv_sub hl [0, 1, 2, 3] rfl)
    · have hlt0 := lt_of_nle (by omega) c_1
      have hlt : k < 7 := by omega
      refine lv_aload_n hx hb dX12_goes_16 rfl (lv_at hl 0 rfl) ?_
      refine va_get (D := E.1) (ci := 12) (v := .ref (q 54)) (C := RX12) (T := TX12) (N := 59) hx hb hts inX12 hown hK hP 0 rfl rfl 54 (by decide) fl139 (fun _ h9 => h9) rfl dX12_goes_17 ?_
      refine lv_iload hx hb dX12_goes_20 (lv_at hl 4 rfl) ?_
      have hi_2 : vp_in (nI k) 7 := vp_in_nI (by omega) (by decide)
      refine va_iald hx hb hK hP 1 0 rfl rfl hi_2 dX12_goes_22 ?_
      refine lv_topi (fun x_3 ex_3 => ?_)
      refine lv_iload_n hx hb dX12_goes_23 rfl (lv_at hl 1 rfl) ?_
      refine lv_icmp_eq (tgt := 30) hx hb dX12_goes_24 (by decide) (fun c_4 => ?_) (fun c_4 => ?_)
      · refine lv_iload_n hx hb dX12_goes_30 rfl (lv_at hl 2 rfl) ?_
        refine lv_iconst (v := 1) hx hb dX12_goes_31 (by decide) ?_
        refine lv_iload hx hb dX12_goes_32 (lv_at hl 4 rfl) ?_
        refine lv_ishl hx hb dX12_goes_34 ?_
        refine lv_topi (fun x_5 ex_5 => ?_)
        refine lv_ior hx hb dX12_goes_35 ?_
        refine lv_topi (fun x_6 ex_6 => ?_)
        obtain ⟨w_7, hwd_8, ew_9⟩ : ∃ w, w < 128 ∧ x_6 = nI w := by rw [ex_6, ex_5]; exact or_bit hsv hlt
        subst ew_9
        refine lv_istore_n (lv' := [(2, .int (nI w_7)), (0, .ref h0), (1, .int (nI cr)), (3, .int (nI mv)), (4, .int (nI k))]) hx hb dX12_goes_36 rfl hl (by decide) rfl (fun ls hl => ?_)
        refine lv_iinc (v := (nI (mv + 1))) (lv' := [(3, .int (nI (mv + 1))), (2, .int (nI w_7)), (0, .ref h0), (1, .int (nI cr)), (4, .int (nI k))]) hx hb dX12_goes_37 hl (k := 3) rfl (show nI mv + 1 = nI (mv + 1) from nI_1 mv) (by decide) rfl (fun ls hl => ?_)
        refine lv_iinc (v := (nI (k + 1))) (lv' := [(4, .int (nI (k + 1))), (3, .int (nI (mv + 1))), (2, .int (nI w_7)), (0, .ref h0), (1, .int (nI cr))]) hx hb dX12_goes_40 hl (k := 4) rfl (show nI k + 1 = nI (k + 1) from nI_1 k) (by decide) rfl (fun ls hl => ?_)
        refine lv_goto (tgt := 7) hx hb dX12_goes_43 (by decide) ?_
        exact ih (k + 1) w_7 (mv + 1) _ _ _ (by omega) (by omega) (by omega) (by omega) (hP.sub [0, 1, 2, 3, 4, 5, 6, 7, 8, 9] rfl) (hD.sub [0, 1, 2, 3, 4, 5, 6, 7, 8, 9] (by decide) rfl) hS (lv_sub hl [3, 4, 2, 1, 0] rfl)
      · refine lv_goto (tgt := 40) hx hb dX12_goes_27 (by decide) ?_
        refine lv_iinc (v := (nI (k + 1))) (lv' := [(4, .int (nI (k + 1))), (0, .ref h0), (1, .int (nI cr)), (2, .int (nI sv)), (3, .int (nI mv))]) hx hb dX12_goes_40 hl (k := 4) rfl (show nI k + 1 = nI (k + 1) from nI_1 k) (by decide) rfl (fun ls hl => ?_)
        refine lv_goto (tgt := 7) hx hb dX12_goes_43 (by decide) ?_
        exact ih (k + 1) sv mv _ _ _ (by omega) (by omega) (by omega) (by omega) (hP.sub [0, 1, 2, 3, 4, 5, 6, 7, 8, 9] rfl) (hD.sub [0, 1, 2, 3, 4, 5, 6, 7, 8, 9] (by decide) rfl) hS (lv_sub hl [1, 2, 3, 4, 0] rfl)
set_option maxHeartbeats 4000000 in
set_option maxRecDepth 100000 in
theorem lm_goes2 {p : Program} {l : Launch} {e : Env} {R : Room} {s : State} {m : MethodId} {args : Array Value} {below : List Frame} {meth : Method} {c : Code} {cells slots : Nat} {Q : State → Prop} {A : Nat → Prop} (E : vE) (h0 : Nat) (q : Nat → Nat) (i_taped : Int32) (i_size : Int32) (i_sort : Int32) (i_what : Int32) (i_at : Int32) (i_end : Int32) (i_worth : Int32) (i_faultKind : Int32) (i_faultPlace : Int32) (i_got : Int32) (i_worked : Int32) (i_isPlanned : Int32) (i_bestDone : Int32) (i_bestCost : Int32) (dl : Nat) (ro_ : Int32) (a_bestGiven : Nat → Int32) (a_order : Nat → Int32) (a_crewPort : Nat → Int32) (a_crewDay : Nat → Int32) (a_dFrom : Nat → Int32) (a_dTo : Nat → Int32) (a_dDays : Nat → Int32) (a_dFirst : Nat → Int32) (hx : p.tables.exec = Jvm.exec) (hb : c.code = cX12_goes) (hml : c.maxLocals = 10) (hown : s.vm.findClass RX12 = some m.cls) (hts : ∀ w ∈ wsX12_goes, w.before args s = true) (hkn : kn E s) (hst : st E A s s.heap) (hA : ∀ q : Nat, s.heap.size ≤ q → A q) (hdl : dl ≤ 7) (hro : digOK ro_) (hI_order : ∀ k : Nat, k < 512 → digOK (a_order k)) (hI_crewPort : ∀ k : Nat, k < 4 → inR (a_crewPort k) (-1) 9 = true) (hI_dFrom : ∀ k : Nat, k < 7 → inR (a_dFrom k) 0 9 = true) (hI_dTo : ∀ k : Nat, k < 7 → inR (a_dTo k) 0 9 = true) (kk : ∀ (a_beginsOn : Nat → Int32) (H : Heap) (locs : List Loc) (ls : Array Slot), va_P E.1 vwCl [(h0, .inr (12, mG q i_taped i_size i_sort i_what i_at i_end i_worth i_faultKind i_faultPlace i_got i_worked (nI dl) i_isPlanned i_bestDone i_bestCost)), (q 54, .inl (E.2.1 0, 7, .inl a_bestGiven)), (q 52, .inl (E.2.1 0, 512, .inl a_order)), (q 47, .inl (E.2.1 0, 4, .inl a_crewPort)), (q 48, .inl (E.2.1 0, 4, .inl a_crewDay)), (q 42, .inl (E.2.1 0, 7, .inl a_dFrom)), (q 43, .inl (E.2.1 0, 7, .inl a_dTo)), (q 44, .inl (E.2.1 0, 7, .inl a_dDays)), (q 45, .inl (E.2.1 0, 7, .inl a_dFirst)), (q 56, .inl (E.2.1 0, 7, .inl a_beginsOn))] H → va_D A [(h0, .inr (12, mG q i_taped i_size i_sort i_what i_at i_end i_worth i_faultKind i_faultPlace i_got i_worked (nI dl) i_isPlanned i_bestDone i_bestCost)), (q 54, .inl (E.2.1 0, 7, .inl a_bestGiven)), (q 52, .inl (E.2.1 0, 512, .inl a_order)), (q 47, .inl (E.2.1 0, 4, .inl a_crewPort)), (q 48, .inl (E.2.1 0, 4, .inl a_crewDay)), (q 42, .inl (E.2.1 0, 7, .inl a_dFrom)), (q 43, .inl (E.2.1 0, 7, .inl a_dTo)), (q 44, .inl (E.2.1 0, 7, .inl a_dDays)), (q 45, .inl (E.2.1 0, 7, .inl a_dFirst)), (q 56, .inl (E.2.1 0, 7, .inl a_beginsOn))] → va_S A s.heap H locs → lv_has ls 10 [(0, .ref h0)] → W p l e R s m args below meth c H locs cells slots Q (F0 m 183 ls [])) : ∀ (n0 : Nat) (z : Nat) (pv : Int32) (dv : Int32) (zz : Int32) (a_beginsOn : Nat → Int32) (H : Heap) (locs : List Loc) (ls : Array Slot), z < n0 → (z ≤ 7) → (zz = nI z - 1) → va_P E.1 vwCl [(h0, .inr (12, mG q i_taped i_size i_sort i_what i_at i_end i_worth i_faultKind i_faultPlace i_got i_worked (nI dl) i_isPlanned i_bestDone i_bestCost)), (q 54, .inl (E.2.1 0, 7, .inl a_bestGiven)), (q 52, .inl (E.2.1 0, 512, .inl a_order)), (q 47, .inl (E.2.1 0, 4, .inl a_crewPort)), (q 48, .inl (E.2.1 0, 4, .inl a_crewDay)), (q 42, .inl (E.2.1 0, 7, .inl a_dFrom)), (q 43, .inl (E.2.1 0, 7, .inl a_dTo)), (q 44, .inl (E.2.1 0, 7, .inl a_dDays)), (q 45, .inl (E.2.1 0, 7, .inl a_dFirst)), (q 56, .inl (E.2.1 0, 7, .inl a_beginsOn))] H → va_D A [(h0, .inr (12, mG q i_taped i_size i_sort i_what i_at i_end i_worth i_faultKind i_faultPlace i_got i_worked (nI dl) i_isPlanned i_bestDone i_bestCost)), (q 54, .inl (E.2.1 0, 7, .inl a_bestGiven)), (q 52, .inl (E.2.1 0, 512, .inl a_order)), (q 47, .inl (E.2.1 0, 4, .inl a_crewPort)), (q 48, .inl (E.2.1 0, 4, .inl a_crewDay)), (q 42, .inl (E.2.1 0, 7, .inl a_dFrom)), (q 43, .inl (E.2.1 0, 7, .inl a_dTo)), (q 44, .inl (E.2.1 0, 7, .inl a_dDays)), (q 45, .inl (E.2.1 0, 7, .inl a_dFirst)), (q 56, .inl (E.2.1 0, 7, .inl a_beginsOn))] → va_S A s.heap H locs → lv_has ls 10 [(0, .ref h0), (4, .int ro_), (5, .int pv), (6, .int dv), (7, .int zz)] → W p l e R s m args below meth c H locs cells slots Q (F0 m 81 ls []) := by
  have hK := hkn.1
  have hAO := hkn.2.2.1
  have fl106 := hts (.fieldLink RX12 106 "BoatsHomeModel" "dFrom" "[I") (by first | exact List.mem_of_getElem? (i := 6) rfl | decide +kernel)
  have fl109 := hts (.fieldLink RX12 109 "BoatsHomeModel" "dTo" "[I") (by first | exact List.mem_of_getElem? (i := 10) rfl | decide +kernel)
  have fl112 := hts (.fieldLink RX12 112 "BoatsHomeModel" "dDays" "[I") (by first | exact List.mem_of_getElem? (i := 9) rfl | decide +kernel)
  have fl115 := hts (.fieldLink RX12 115 "BoatsHomeModel" "dFirst" "[I") (by first | exact List.mem_of_getElem? (i := 8) rfl | decide +kernel)
  have fl121 := hts (.fieldLink RX12 121 "BoatsHomeModel" "crewPort" "[I") (by first | exact List.mem_of_getElem? (i := 4) rfl | decide +kernel)
  have fl124 := hts (.fieldLink RX12 124 "BoatsHomeModel" "crewDay" "[I") (by first | exact List.mem_of_getElem? (i := 5) rfl | decide +kernel)
  have fl133 := hts (.fieldLink RX12 133 "BoatsHomeModel" "order" "[I") (by first | exact List.mem_of_getElem? (i := 3) rfl | decide +kernel)
  have fl139 := hts (.fieldLink RX12 139 "BoatsHomeModel" "bestGiven" "[I") (by first | exact List.mem_of_getElem? (i := 2) rfl | decide +kernel)
  have fl145 := hts (.fieldLink RX12 145 "BoatsHomeModel" "beginsOn" "[I") (by first | exact List.mem_of_getElem? (i := 7) rfl | decide +kernel)
  have fl289 := hts (.fieldLink RX12 289 "BoatsHomeModel" "deliveries" "I") (by first | exact List.mem_of_getElem? (i := 1) rfl | decide +kernel)
  have inX12 : ∀ w ∈ u_ws RX12 TX12 59, w ∈ wsX12_goes := by first | exact fun w h9 => (List.mem_cons_of_mem _ (List.mem_append_right _ h9)) | decide +kernel
  intro n0
  induction n0 with
  | zero =>
    intro z pv dv zz a_beginsOn H locs ls hn0
    exact absurd hn0 (Nat.not_lt_zero _)
  | succ n0 ih =>
    intro z pv dv zz a_beginsOn H locs ls hn0 hzl hz hP hD hS hl
    refine lv_iload hx hb dX12_goes_81 (lv_at hl 4 rfl) ?_
    refine lv_if_lt (tgt := 183) hx hb dX12_goes_83 (by decide) (fun c_1 => ?_) (fun c_1 => ?_)
    · exact kk a_beginsOn _ _ _  (hP.sub [0, 1, 2, 3, 4, 5, 6, 7, 8, 9] rfl) (hD.sub [0, 1, 2, 3, 4, 5, 6, 7, 8, 9] (by decide) rfl) hS (lv_sub hl [0] rfl)
    · obtain ⟨y9, hy9, ey9⟩ := zz_of hz c_1
      subst ey9
      refine lv_iload hx hb dX12_goes_86 (lv_at hl 1 rfl) ?_
      refine lv_iconst (v := 3) hx hb dX12_goes_88 (by decide) ?_
      refine lv_iload hx hb dX12_goes_89 (lv_at hl 4 rfl) ?_
      refine lv_imul hx hb dX12_goes_91 ?_
      refine lv_topi (fun x_2 ex_2 => ?_)
      obtain rfl : x_2 = nI (3 * y9) := ex_2.trans (pk_mul 3 y9)
      refine lv_ishr hx hb dX12_goes_92 ?_
      refine lv_topi (fun x_3 ex_3 => ?_)
      refine lv_bipush (v := 7) hx hb dX12_goes_93 (by decide) ?_
      refine lv_iand hx hb dX12_goes_95 ?_
      refine lv_topi (fun x_4 ex_4 => ?_)
      obtain ⟨dd, hdd, edd⟩ : ∃ d, d < 7 ∧ x_4 = nI d := by rw [ex_4, ex_3]; exact dig_at hro (by omega)
      subst edd
      refine lv_istore (lv' := [(8, .int (nI dd)), (0, .ref h0), (4, .int ro_), (5, .int pv), (6, .int dv), (7, .int (nI y9))]) hx hb dX12_goes_96 hl (by decide) rfl (fun ls hl => ?_)
      refine lv_iload hx hb dX12_goes_98 (lv_at hl 4 rfl) ?_
      refine lv_iload hx hb dX12_goes_100 (lv_at hl 3 rfl) ?_
      refine lv_aload_n hx hb dX12_goes_102 rfl (lv_at hl 1 rfl) ?_
      refine va_get (D := E.1) (ci := 12) (v := .ref (q 42)) (C := RX12) (T := TX12) (N := 59) hx hb hts inX12 hown hK hP 0 rfl rfl 42 (by decide) fl106 (fun _ h9 => h9) rfl dX12_goes_103 ?_
      refine lv_iload hx hb dX12_goes_106 (lv_at hl 0 rfl) ?_
      have hi_5 : vp_in (nI dd) 7 := vp_in_nI (by omega) (by decide)
      refine va_iald hx hb hK hP 5 0 rfl rfl hi_5 dX12_goes_108 ?_
      refine lv_topi (fun x_6 ex_6 => ?_)
      have hv_7 : inR x_6 0 9 = true := by rw [ex_6]; exact hI_dFrom _ (vin_cl hi_5)
      obtain ⟨w_8, hw_9, ew_10⟩ := inR_nI (n := 9) (by decide) hv_7
      subst ew_10
      refine lv_icmp_ne (tgt := 116) hx hb dX12_goes_109 (by decide) (fun c_11 => ?_) (fun c_11 => ?_)
      · refine lv_iconst (v := 1) hx hb dX12_goes_116 (by decide) ?_
        refine lv_iadd hx hb dX12_goes_117 ?_
        refine lv_topi (fun x_12 ex_12 => ?_)
        refine lv_istore (lv' := [(9, .int x_12), (8, .int (nI dd)), (0, .ref h0), (4, .int ro_), (5, .int pv), (6, .int dv), (7, .int (nI y9))]) hx hb dX12_goes_118 hl (by decide) rfl (fun ls hl => ?_)
        refine lv_aload_n hx hb dX12_goes_120 rfl (lv_at hl 2 rfl) ?_
        refine va_get (D := E.1) (ci := 12) (v := .ref (q 56)) (C := RX12) (T := TX12) (N := 59) hx hb hts inX12 hown hK hP 0 rfl rfl 56 (by decide) fl145 (fun _ h9 => h9) rfl dX12_goes_121 ?_
        refine lv_iload hx hb dX12_goes_124 (lv_at hl 1 rfl) ?_
        refine lv_iload hx hb dX12_goes_126 (lv_at hl 0 rfl) ?_
        refine lv_aload_n hx hb dX12_goes_128 rfl (lv_at hl 2 rfl) ?_
        refine va_get (D := E.1) (ci := 12) (v := .ref (q 45)) (C := RX12) (T := TX12) (N := 59) hx hb hts inX12 hown hK hP 0 rfl rfl 45 (by decide) fl115 (fun _ h9 => h9) rfl dX12_goes_129 ?_
        refine lv_iload hx hb dX12_goes_132 (lv_at hl 1 rfl) ?_
        refine va_iald hx hb hK hP 8 0 rfl rfl hi_5 dX12_goes_134 ?_
        refine lv_topi (fun x_13 ex_13 => ?_)
        refine lv_icmp_le (tgt := 143) hx hb dX12_goes_135 (by decide) (fun c_14 => ?_) (fun c_14 => ?_)
        · refine lv_aload_n hx hb dX12_goes_143 rfl (lv_at hl 2 rfl) ?_
          refine va_get (D := E.1) (ci := 12) (v := .ref (q 45)) (C := RX12) (T := TX12) (N := 59) hx hb hts inX12 hown hK hP 0 rfl rfl 45 (by decide) fl115 (fun _ h9 => h9) rfl dX12_goes_144 ?_
          refine lv_iload hx hb dX12_goes_147 (lv_at hl 1 rfl) ?_
          refine va_iald hx hb hK hP 8 0 rfl rfl hi_5 dX12_goes_149 ?_
          refine lv_topi (fun x_15 ex_15 => ?_)
          refine va_iast hx hb hK hP hD hS 9 0 rfl rfl hi_5 dX12_goes_150 (fun H locs hP hD hS => ?_)
          have hP : va_P E.1 vwCl [(h0, .inr (12, mG q i_taped i_size i_sort i_what i_at i_end i_worth i_faultKind i_faultPlace i_got i_worked (nI dl) i_isPlanned i_bestDone i_bestCost)), (q 54, .inl (E.2.1 0, 7, .inl a_bestGiven)), (q 52, .inl (E.2.1 0, 512, .inl a_order)), (q 47, .inl (E.2.1 0, 4, .inl a_crewPort)), (q 48, .inl (E.2.1 0, 4, .inl a_crewDay)), (q 42, .inl (E.2.1 0, 7, .inl a_dFrom)), (q 43, .inl (E.2.1 0, 7, .inl a_dTo)), (q 44, .inl (E.2.1 0, 7, .inl a_dDays)), (q 45, .inl (E.2.1 0, 7, .inl a_dFirst)), (q 56, .inl (E.2.1 0, 7, .inl (upd a_beginsOn (nI dd).toNatClampNeg x_15)))] H := hP
          have hD : va_D A [(h0, .inr (12, mG q i_taped i_size i_sort i_what i_at i_end i_worth i_faultKind i_faultPlace i_got i_worked (nI dl) i_isPlanned i_bestDone i_bestCost)), (q 54, .inl (E.2.1 0, 7, .inl a_bestGiven)), (q 52, .inl (E.2.1 0, 512, .inl a_order)), (q 47, .inl (E.2.1 0, 4, .inl a_crewPort)), (q 48, .inl (E.2.1 0, 4, .inl a_crewDay)), (q 42, .inl (E.2.1 0, 7, .inl a_dFrom)), (q 43, .inl (E.2.1 0, 7, .inl a_dTo)), (q 44, .inl (E.2.1 0, 7, .inl a_dDays)), (q 45, .inl (E.2.1 0, 7, .inl a_dFirst)), (q 56, .inl (E.2.1 0, 7, .inl (upd a_beginsOn (nI dd).toNatClampNeg x_15)))] := hD
          obtain ⟨f_16, ef_16⟩ : ∃ g : Nat → Int32, g = upd a_beginsOn (nI dd).toNatClampNeg x_15 := ⟨_, rfl⟩
          rw [← ef_16] at hP hD
          refine lv_aload_n hx hb dX12_goes_151 rfl (lv_at hl 2 rfl) ?_
          refine va_get (D := E.1) (ci := 12) (v := .ref (q 56)) (C := RX12) (T := TX12) (N := 59) hx hb hts inX12 hown hK hP 0 rfl rfl 56 (by decide) fl145 (fun _ h9 => h9) rfl dX12_goes_152 ?_
          refine lv_iload hx hb dX12_goes_155 (lv_at hl 1 rfl) ?_
          refine va_iald hx hb hK hP 9 0 rfl rfl hi_5 dX12_goes_157 ?_
          refine lv_topi (fun x_17 ex_17 => ?_)
          refine lv_aload_n hx hb dX12_goes_158 rfl (lv_at hl 2 rfl) ?_
          refine va_get (D := E.1) (ci := 12) (v := .ref (q 44)) (C := RX12) (T := TX12) (N := 59) hx hb hts inX12 hown hK hP 0 rfl rfl 44 (by decide) fl112 (fun _ h9 => h9) rfl dX12_goes_159 ?_
          refine lv_iload hx hb dX12_goes_162 (lv_at hl 1 rfl) ?_
          refine va_iald hx hb hK hP 7 0 rfl rfl hi_5 dX12_goes_164 ?_
          refine lv_topi (fun x_18 ex_18 => ?_)
          refine lv_iadd hx hb dX12_goes_165 ?_
          refine lv_topi (fun x_19 ex_19 => ?_)
          refine lv_istore (lv' := [(6, .int x_19), (9, .int x_12), (8, .int (nI dd)), (0, .ref h0), (4, .int ro_), (5, .int pv), (7, .int (nI y9))]) hx hb dX12_goes_166 hl (by decide) rfl (fun ls hl => ?_)
          refine lv_aload_n hx hb dX12_goes_168 rfl (lv_at hl 3 rfl) ?_
          refine va_get (D := E.1) (ci := 12) (v := .ref (q 43)) (C := RX12) (T := TX12) (N := 59) hx hb hts inX12 hown hK hP 0 rfl rfl 43 (by decide) fl109 (fun _ h9 => h9) rfl dX12_goes_169 ?_
          refine lv_iload hx hb dX12_goes_172 (lv_at hl 2 rfl) ?_
          refine va_iald hx hb hK hP 6 0 rfl rfl hi_5 dX12_goes_174 ?_
          refine lv_topi (fun x_20 ex_20 => ?_)
          have hv_21 : inR x_20 0 9 = true := by rw [ex_20]; exact hI_dTo _ (vin_cl hi_5)
          obtain ⟨w_22, hw_23, ew_24⟩ := inR_nI (n := 9) (by decide) hv_21
          subst ew_24
          refine lv_istore (lv' := [(5, .int (nI w_22)), (6, .int x_19), (9, .int x_12), (8, .int (nI dd)), (0, .ref h0), (4, .int ro_), (7, .int (nI y9))]) hx hb dX12_goes_175 hl (by decide) rfl (fun ls hl => ?_)
          obtain ⟨x_25, ex_25⟩ : ∃ y : Int32, y = (nI y9) + (-1) := ⟨_, rfl⟩
          refine lv_iinc (v := x_25) (lv' := [(7, .int x_25), (5, .int (nI w_22)), (6, .int x_19), (9, .int x_12), (8, .int (nI dd)), (0, .ref h0), (4, .int ro_)]) hx hb dX12_goes_177 hl (k := 6) rfl (by rw [ex_25]; rfl) (by decide) rfl (fun ls hl => ?_)
          refine lv_goto (tgt := 81) hx hb dX12_goes_180 (by decide) ?_
          exact ih y9 (nI w_22) x_19 x_25 f_16 _ _ _ (by omega) (by omega) (by rw [ex_25]; exact add_m1 _) (hP.sub [0, 1, 2, 3, 4, 5, 6, 7, 8, 9] rfl) (hD.sub [0, 1, 2, 3, 4, 5, 6, 7, 8, 9] (by decide) rfl) hS (lv_sub hl [5, 6, 1, 2, 0] rfl)
        · refine lv_iload hx hb dX12_goes_138 (lv_at hl 0 rfl) ?_
          refine lv_goto (tgt := 150) hx hb dX12_goes_140 (by decide) ?_
          refine va_iast hx hb hK hP hD hS 9 0 rfl rfl hi_5 dX12_goes_150 (fun H locs hP hD hS => ?_)
          have hP : va_P E.1 vwCl [(h0, .inr (12, mG q i_taped i_size i_sort i_what i_at i_end i_worth i_faultKind i_faultPlace i_got i_worked (nI dl) i_isPlanned i_bestDone i_bestCost)), (q 54, .inl (E.2.1 0, 7, .inl a_bestGiven)), (q 52, .inl (E.2.1 0, 512, .inl a_order)), (q 47, .inl (E.2.1 0, 4, .inl a_crewPort)), (q 48, .inl (E.2.1 0, 4, .inl a_crewDay)), (q 42, .inl (E.2.1 0, 7, .inl a_dFrom)), (q 43, .inl (E.2.1 0, 7, .inl a_dTo)), (q 44, .inl (E.2.1 0, 7, .inl a_dDays)), (q 45, .inl (E.2.1 0, 7, .inl a_dFirst)), (q 56, .inl (E.2.1 0, 7, .inl (upd a_beginsOn (nI dd).toNatClampNeg x_12)))] H := hP
          have hD : va_D A [(h0, .inr (12, mG q i_taped i_size i_sort i_what i_at i_end i_worth i_faultKind i_faultPlace i_got i_worked (nI dl) i_isPlanned i_bestDone i_bestCost)), (q 54, .inl (E.2.1 0, 7, .inl a_bestGiven)), (q 52, .inl (E.2.1 0, 512, .inl a_order)), (q 47, .inl (E.2.1 0, 4, .inl a_crewPort)), (q 48, .inl (E.2.1 0, 4, .inl a_crewDay)), (q 42, .inl (E.2.1 0, 7, .inl a_dFrom)), (q 43, .inl (E.2.1 0, 7, .inl a_dTo)), (q 44, .inl (E.2.1 0, 7, .inl a_dDays)), (q 45, .inl (E.2.1 0, 7, .inl a_dFirst)), (q 56, .inl (E.2.1 0, 7, .inl (upd a_beginsOn (nI dd).toNatClampNeg x_12)))] := hD
          obtain ⟨f_26, ef_26⟩ : ∃ g : Nat → Int32, g = upd a_beginsOn (nI dd).toNatClampNeg x_12 := ⟨_, rfl⟩
          rw [← ef_26] at hP hD
          refine lv_aload_n hx hb dX12_goes_151 rfl (lv_at hl 2 rfl) ?_
          refine va_get (D := E.1) (ci := 12) (v := .ref (q 56)) (C := RX12) (T := TX12) (N := 59) hx hb hts inX12 hown hK hP 0 rfl rfl 56 (by decide) fl145 (fun _ h9 => h9) rfl dX12_goes_152 ?_
          refine lv_iload hx hb dX12_goes_155 (lv_at hl 1 rfl) ?_
          refine va_iald hx hb hK hP 9 0 rfl rfl hi_5 dX12_goes_157 ?_
          refine lv_topi (fun x_27 ex_27 => ?_)
          refine lv_aload_n hx hb dX12_goes_158 rfl (lv_at hl 2 rfl) ?_
          refine va_get (D := E.1) (ci := 12) (v := .ref (q 44)) (C := RX12) (T := TX12) (N := 59) hx hb hts inX12 hown hK hP 0 rfl rfl 44 (by decide) fl112 (fun _ h9 => h9) rfl dX12_goes_159 ?_
          refine lv_iload hx hb dX12_goes_162 (lv_at hl 1 rfl) ?_
          refine va_iald hx hb hK hP 7 0 rfl rfl hi_5 dX12_goes_164 ?_
          refine lv_topi (fun x_28 ex_28 => ?_)
          refine lv_iadd hx hb dX12_goes_165 ?_
          refine lv_topi (fun x_29 ex_29 => ?_)
          refine lv_istore (lv' := [(6, .int x_29), (9, .int x_12), (8, .int (nI dd)), (0, .ref h0), (4, .int ro_), (5, .int pv), (7, .int (nI y9))]) hx hb dX12_goes_166 hl (by decide) rfl (fun ls hl => ?_)
          refine lv_aload_n hx hb dX12_goes_168 rfl (lv_at hl 3 rfl) ?_
          refine va_get (D := E.1) (ci := 12) (v := .ref (q 43)) (C := RX12) (T := TX12) (N := 59) hx hb hts inX12 hown hK hP 0 rfl rfl 43 (by decide) fl109 (fun _ h9 => h9) rfl dX12_goes_169 ?_
          refine lv_iload hx hb dX12_goes_172 (lv_at hl 2 rfl) ?_
          refine va_iald hx hb hK hP 6 0 rfl rfl hi_5 dX12_goes_174 ?_
          refine lv_topi (fun x_30 ex_30 => ?_)
          have hv_31 : inR x_30 0 9 = true := by rw [ex_30]; exact hI_dTo _ (vin_cl hi_5)
          obtain ⟨w_32, hw_33, ew_34⟩ := inR_nI (n := 9) (by decide) hv_31
          subst ew_34
          refine lv_istore (lv' := [(5, .int (nI w_32)), (6, .int x_29), (9, .int x_12), (8, .int (nI dd)), (0, .ref h0), (4, .int ro_), (7, .int (nI y9))]) hx hb dX12_goes_175 hl (by decide) rfl (fun ls hl => ?_)
          obtain ⟨x_35, ex_35⟩ : ∃ y : Int32, y = (nI y9) + (-1) := ⟨_, rfl⟩
          refine lv_iinc (v := x_35) (lv' := [(7, .int x_35), (5, .int (nI w_32)), (6, .int x_29), (9, .int x_12), (8, .int (nI dd)), (0, .ref h0), (4, .int ro_)]) hx hb dX12_goes_177 hl (k := 6) rfl (by rw [ex_35]; rfl) (by decide) rfl (fun ls hl => ?_)
          refine lv_goto (tgt := 81) hx hb dX12_goes_180 (by decide) ?_
          exact ih y9 (nI w_32) x_29 x_35 f_26 _ _ _ (by omega) (by omega) (by rw [ex_35]; exact add_m1 _) (hP.sub [0, 1, 2, 3, 4, 5, 6, 7, 8, 9] rfl) (hD.sub [0, 1, 2, 3, 4, 5, 6, 7, 8, 9] (by decide) rfl) hS (lv_sub hl [5, 6, 1, 2, 0] rfl)
      · refine lv_iconst (v := 0) hx hb dX12_goes_112 (by decide) ?_
        refine lv_goto (tgt := 117) hx hb dX12_goes_113 (by decide) ?_
        refine lv_iadd hx hb dX12_goes_117 ?_
        refine lv_topi (fun x_36 ex_36 => ?_)
        refine lv_istore (lv' := [(9, .int x_36), (8, .int (nI dd)), (0, .ref h0), (4, .int ro_), (5, .int pv), (6, .int dv), (7, .int (nI y9))]) hx hb dX12_goes_118 hl (by decide) rfl (fun ls hl => ?_)
        refine lv_aload_n hx hb dX12_goes_120 rfl (lv_at hl 2 rfl) ?_
        refine va_get (D := E.1) (ci := 12) (v := .ref (q 56)) (C := RX12) (T := TX12) (N := 59) hx hb hts inX12 hown hK hP 0 rfl rfl 56 (by decide) fl145 (fun _ h9 => h9) rfl dX12_goes_121 ?_
        refine lv_iload hx hb dX12_goes_124 (lv_at hl 1 rfl) ?_
        refine lv_iload hx hb dX12_goes_126 (lv_at hl 0 rfl) ?_
        refine lv_aload_n hx hb dX12_goes_128 rfl (lv_at hl 2 rfl) ?_
        refine va_get (D := E.1) (ci := 12) (v := .ref (q 45)) (C := RX12) (T := TX12) (N := 59) hx hb hts inX12 hown hK hP 0 rfl rfl 45 (by decide) fl115 (fun _ h9 => h9) rfl dX12_goes_129 ?_
        refine lv_iload hx hb dX12_goes_132 (lv_at hl 1 rfl) ?_
        refine va_iald hx hb hK hP 8 0 rfl rfl hi_5 dX12_goes_134 ?_
        refine lv_topi (fun x_37 ex_37 => ?_)
        refine lv_icmp_le (tgt := 143) hx hb dX12_goes_135 (by decide) (fun c_38 => ?_) (fun c_38 => ?_)
        · refine lv_aload_n hx hb dX12_goes_143 rfl (lv_at hl 2 rfl) ?_
          refine va_get (D := E.1) (ci := 12) (v := .ref (q 45)) (C := RX12) (T := TX12) (N := 59) hx hb hts inX12 hown hK hP 0 rfl rfl 45 (by decide) fl115 (fun _ h9 => h9) rfl dX12_goes_144 ?_
          refine lv_iload hx hb dX12_goes_147 (lv_at hl 1 rfl) ?_
          refine va_iald hx hb hK hP 8 0 rfl rfl hi_5 dX12_goes_149 ?_
          refine lv_topi (fun x_39 ex_39 => ?_)
          refine va_iast hx hb hK hP hD hS 9 0 rfl rfl hi_5 dX12_goes_150 (fun H locs hP hD hS => ?_)
          have hP : va_P E.1 vwCl [(h0, .inr (12, mG q i_taped i_size i_sort i_what i_at i_end i_worth i_faultKind i_faultPlace i_got i_worked (nI dl) i_isPlanned i_bestDone i_bestCost)), (q 54, .inl (E.2.1 0, 7, .inl a_bestGiven)), (q 52, .inl (E.2.1 0, 512, .inl a_order)), (q 47, .inl (E.2.1 0, 4, .inl a_crewPort)), (q 48, .inl (E.2.1 0, 4, .inl a_crewDay)), (q 42, .inl (E.2.1 0, 7, .inl a_dFrom)), (q 43, .inl (E.2.1 0, 7, .inl a_dTo)), (q 44, .inl (E.2.1 0, 7, .inl a_dDays)), (q 45, .inl (E.2.1 0, 7, .inl a_dFirst)), (q 56, .inl (E.2.1 0, 7, .inl (upd a_beginsOn (nI dd).toNatClampNeg x_39)))] H := hP
          have hD : va_D A [(h0, .inr (12, mG q i_taped i_size i_sort i_what i_at i_end i_worth i_faultKind i_faultPlace i_got i_worked (nI dl) i_isPlanned i_bestDone i_bestCost)), (q 54, .inl (E.2.1 0, 7, .inl a_bestGiven)), (q 52, .inl (E.2.1 0, 512, .inl a_order)), (q 47, .inl (E.2.1 0, 4, .inl a_crewPort)), (q 48, .inl (E.2.1 0, 4, .inl a_crewDay)), (q 42, .inl (E.2.1 0, 7, .inl a_dFrom)), (q 43, .inl (E.2.1 0, 7, .inl a_dTo)), (q 44, .inl (E.2.1 0, 7, .inl a_dDays)), (q 45, .inl (E.2.1 0, 7, .inl a_dFirst)), (q 56, .inl (E.2.1 0, 7, .inl (upd a_beginsOn (nI dd).toNatClampNeg x_39)))] := hD
          obtain ⟨f_40, ef_40⟩ : ∃ g : Nat → Int32, g = upd a_beginsOn (nI dd).toNatClampNeg x_39 := ⟨_, rfl⟩
          rw [← ef_40] at hP hD
          refine lv_aload_n hx hb dX12_goes_151 rfl (lv_at hl 2 rfl) ?_
          refine va_get (D := E.1) (ci := 12) (v := .ref (q 56)) (C := RX12) (T := TX12) (N := 59) hx hb hts inX12 hown hK hP 0 rfl rfl 56 (by decide) fl145 (fun _ h9 => h9) rfl dX12_goes_152 ?_
          refine lv_iload hx hb dX12_goes_155 (lv_at hl 1 rfl) ?_
          refine va_iald hx hb hK hP 9 0 rfl rfl hi_5 dX12_goes_157 ?_
          refine lv_topi (fun x_41 ex_41 => ?_)
          refine lv_aload_n hx hb dX12_goes_158 rfl (lv_at hl 2 rfl) ?_
          refine va_get (D := E.1) (ci := 12) (v := .ref (q 44)) (C := RX12) (T := TX12) (N := 59) hx hb hts inX12 hown hK hP 0 rfl rfl 44 (by decide) fl112 (fun _ h9 => h9) rfl dX12_goes_159 ?_
          refine lv_iload hx hb dX12_goes_162 (lv_at hl 1 rfl) ?_
          refine va_iald hx hb hK hP 7 0 rfl rfl hi_5 dX12_goes_164 ?_
          refine lv_topi (fun x_42 ex_42 => ?_)
          refine lv_iadd hx hb dX12_goes_165 ?_
          refine lv_topi (fun x_43 ex_43 => ?_)
          refine lv_istore (lv' := [(6, .int x_43), (9, .int x_36), (8, .int (nI dd)), (0, .ref h0), (4, .int ro_), (5, .int pv), (7, .int (nI y9))]) hx hb dX12_goes_166 hl (by decide) rfl (fun ls hl => ?_)
          refine lv_aload_n hx hb dX12_goes_168 rfl (lv_at hl 3 rfl) ?_
          refine va_get (D := E.1) (ci := 12) (v := .ref (q 43)) (C := RX12) (T := TX12) (N := 59) hx hb hts inX12 hown hK hP 0 rfl rfl 43 (by decide) fl109 (fun _ h9 => h9) rfl dX12_goes_169 ?_
          refine lv_iload hx hb dX12_goes_172 (lv_at hl 2 rfl) ?_
          refine va_iald hx hb hK hP 6 0 rfl rfl hi_5 dX12_goes_174 ?_
          refine lv_topi (fun x_44 ex_44 => ?_)
          have hv_45 : inR x_44 0 9 = true := by rw [ex_44]; exact hI_dTo _ (vin_cl hi_5)
          obtain ⟨w_46, hw_47, ew_48⟩ := inR_nI (n := 9) (by decide) hv_45
          subst ew_48
          refine lv_istore (lv' := [(5, .int (nI w_46)), (6, .int x_43), (9, .int x_36), (8, .int (nI dd)), (0, .ref h0), (4, .int ro_), (7, .int (nI y9))]) hx hb dX12_goes_175 hl (by decide) rfl (fun ls hl => ?_)
          obtain ⟨x_49, ex_49⟩ : ∃ y : Int32, y = (nI y9) + (-1) := ⟨_, rfl⟩
          refine lv_iinc (v := x_49) (lv' := [(7, .int x_49), (5, .int (nI w_46)), (6, .int x_43), (9, .int x_36), (8, .int (nI dd)), (0, .ref h0), (4, .int ro_)]) hx hb dX12_goes_177 hl (k := 6) rfl (by rw [ex_49]; rfl) (by decide) rfl (fun ls hl => ?_)
          refine lv_goto (tgt := 81) hx hb dX12_goes_180 (by decide) ?_
          exact ih y9 (nI w_46) x_43 x_49 f_40 _ _ _ (by omega) (by omega) (by rw [ex_49]; exact add_m1 _) (hP.sub [0, 1, 2, 3, 4, 5, 6, 7, 8, 9] rfl) (hD.sub [0, 1, 2, 3, 4, 5, 6, 7, 8, 9] (by decide) rfl) hS (lv_sub hl [5, 6, 1, 2, 0] rfl)
        · refine lv_iload hx hb dX12_goes_138 (lv_at hl 0 rfl) ?_
          refine lv_goto (tgt := 150) hx hb dX12_goes_140 (by decide) ?_
          refine va_iast hx hb hK hP hD hS 9 0 rfl rfl hi_5 dX12_goes_150 (fun H locs hP hD hS => ?_)
          have hP : va_P E.1 vwCl [(h0, .inr (12, mG q i_taped i_size i_sort i_what i_at i_end i_worth i_faultKind i_faultPlace i_got i_worked (nI dl) i_isPlanned i_bestDone i_bestCost)), (q 54, .inl (E.2.1 0, 7, .inl a_bestGiven)), (q 52, .inl (E.2.1 0, 512, .inl a_order)), (q 47, .inl (E.2.1 0, 4, .inl a_crewPort)), (q 48, .inl (E.2.1 0, 4, .inl a_crewDay)), (q 42, .inl (E.2.1 0, 7, .inl a_dFrom)), (q 43, .inl (E.2.1 0, 7, .inl a_dTo)), (q 44, .inl (E.2.1 0, 7, .inl a_dDays)), (q 45, .inl (E.2.1 0, 7, .inl a_dFirst)), (q 56, .inl (E.2.1 0, 7, .inl (upd a_beginsOn (nI dd).toNatClampNeg x_36)))] H := hP
          have hD : va_D A [(h0, .inr (12, mG q i_taped i_size i_sort i_what i_at i_end i_worth i_faultKind i_faultPlace i_got i_worked (nI dl) i_isPlanned i_bestDone i_bestCost)), (q 54, .inl (E.2.1 0, 7, .inl a_bestGiven)), (q 52, .inl (E.2.1 0, 512, .inl a_order)), (q 47, .inl (E.2.1 0, 4, .inl a_crewPort)), (q 48, .inl (E.2.1 0, 4, .inl a_crewDay)), (q 42, .inl (E.2.1 0, 7, .inl a_dFrom)), (q 43, .inl (E.2.1 0, 7, .inl a_dTo)), (q 44, .inl (E.2.1 0, 7, .inl a_dDays)), (q 45, .inl (E.2.1 0, 7, .inl a_dFirst)), (q 56, .inl (E.2.1 0, 7, .inl (upd a_beginsOn (nI dd).toNatClampNeg x_36)))] := hD
          obtain ⟨f_50, ef_50⟩ : ∃ g : Nat → Int32, g = upd a_beginsOn (nI dd).toNatClampNeg x_36 := ⟨_, rfl⟩
          rw [← ef_50] at hP hD
          refine lv_aload_n hx hb dX12_goes_151 rfl (lv_at hl 2 rfl) ?_
          refine va_get (D := E.1) (ci := 12) (v := .ref (q 56)) (C := RX12) (T := TX12) (N := 59) hx hb hts inX12 hown hK hP 0 rfl rfl 56 (by decide) fl145 (fun _ h9 => h9) rfl dX12_goes_152 ?_
          refine lv_iload hx hb dX12_goes_155 (lv_at hl 1 rfl) ?_
          refine va_iald hx hb hK hP 9 0 rfl rfl hi_5 dX12_goes_157 ?_
          refine lv_topi (fun x_51 ex_51 => ?_)
          refine lv_aload_n hx hb dX12_goes_158 rfl (lv_at hl 2 rfl) ?_
          refine va_get (D := E.1) (ci := 12) (v := .ref (q 44)) (C := RX12) (T := TX12) (N := 59) hx hb hts inX12 hown hK hP 0 rfl rfl 44 (by decide) fl112 (fun _ h9 => h9) rfl dX12_goes_159 ?_
          refine lv_iload hx hb dX12_goes_162 (lv_at hl 1 rfl) ?_
          refine va_iald hx hb hK hP 7 0 rfl rfl hi_5 dX12_goes_164 ?_
          refine lv_topi (fun x_52 ex_52 => ?_)
          refine lv_iadd hx hb dX12_goes_165 ?_
          refine lv_topi (fun x_53 ex_53 => ?_)
          refine lv_istore (lv' := [(6, .int x_53), (9, .int x_36), (8, .int (nI dd)), (0, .ref h0), (4, .int ro_), (5, .int pv), (7, .int (nI y9))]) hx hb dX12_goes_166 hl (by decide) rfl (fun ls hl => ?_)
          refine lv_aload_n hx hb dX12_goes_168 rfl (lv_at hl 3 rfl) ?_
          refine va_get (D := E.1) (ci := 12) (v := .ref (q 43)) (C := RX12) (T := TX12) (N := 59) hx hb hts inX12 hown hK hP 0 rfl rfl 43 (by decide) fl109 (fun _ h9 => h9) rfl dX12_goes_169 ?_
          refine lv_iload hx hb dX12_goes_172 (lv_at hl 2 rfl) ?_
          refine va_iald hx hb hK hP 6 0 rfl rfl hi_5 dX12_goes_174 ?_
          refine lv_topi (fun x_54 ex_54 => ?_)
          have hv_55 : inR x_54 0 9 = true := by rw [ex_54]; exact hI_dTo _ (vin_cl hi_5)
          obtain ⟨w_56, hw_57, ew_58⟩ := inR_nI (n := 9) (by decide) hv_55
          subst ew_58
          refine lv_istore (lv' := [(5, .int (nI w_56)), (6, .int x_53), (9, .int x_36), (8, .int (nI dd)), (0, .ref h0), (4, .int ro_), (7, .int (nI y9))]) hx hb dX12_goes_175 hl (by decide) rfl (fun ls hl => ?_)
          obtain ⟨x_59, ex_59⟩ : ∃ y : Int32, y = (nI y9) + (-1) := ⟨_, rfl⟩
          refine lv_iinc (v := x_59) (lv' := [(7, .int x_59), (5, .int (nI w_56)), (6, .int x_53), (9, .int x_36), (8, .int (nI dd)), (0, .ref h0), (4, .int ro_)]) hx hb dX12_goes_177 hl (k := 6) rfl (by rw [ex_59]; rfl) (by decide) rfl (fun ls hl => ?_)
          refine lv_goto (tgt := 81) hx hb dX12_goes_180 (by decide) ?_
          exact ih y9 (nI w_56) x_53 x_59 f_50 _ _ _ (by omega) (by omega) (by rw [ex_59]; exact add_m1 _) (hP.sub [0, 1, 2, 3, 4, 5, 6, 7, 8, 9] rfl) (hD.sub [0, 1, 2, 3, 4, 5, 6, 7, 8, 9] (by decide) rfl) hS (lv_sub hl [5, 6, 1, 2, 0] rfl)
set_option maxHeartbeats 4000000 in
set_option maxRecDepth 100000 in
theorem c_X12_goes (l : Launch) (E : vE) (h0 : Nat) (q : Nat → Nat) (i_taped : Int32) (i_size : Int32) (i_sort : Int32) (i_what : Int32) (i_at : Int32) (i_end : Int32) (i_worth : Int32) (i_faultKind : Int32) (i_faultPlace : Int32) (i_got : Int32) (i_worked : Int32) (i_isPlanned : Int32) (i_bestDone : Int32) (i_bestCost : Int32) (dl : Nat) (cr : Nat) (a_bestGiven : Nat → Int32) (a_order : Nat → Int32) (a_crewPort : Nat → Int32) (a_crewDay : Nat → Int32) (a_dFrom : Nat → Int32) (a_dTo : Nat → Int32) (a_dDays : Nat → Int32) (a_dFirst : Nat → Int32) (a_beginsOn : Nat → Int32) (sz : Nat) (hcr : cr < 4) (hdl : dl ≤ 7) (hI_order : ∀ k : Nat, k < 512 → digOK (a_order k)) (hI_crewPort : ∀ k : Nat, k < 4 → inR (a_crewPort k) (-1) 9 = true) (hI_dFrom : ∀ k : Nat, k < 7 → inR (a_dFrom k) 0 9 = true) (hI_dTo : ∀ k : Nat, k < 7 → inR (a_dTo k) 0 9 = true) : Met l yX12_goes wsX12_goes ({ frames := 0, cells := 0, slots := 0, locals := 0 }) (pcW E [.ref h0, .int (nI cr)] sz [(h0, .inr (12, mG q i_taped i_size i_sort i_what i_at i_end i_worth i_faultKind i_faultPlace i_got i_worked (nI dl) i_isPlanned i_bestDone i_bestCost)), (q 54, .inl (E.2.1 0, 7, .inl a_bestGiven)), (q 52, .inl (E.2.1 0, 512, .inl a_order)), (q 47, .inl (E.2.1 0, 4, .inl a_crewPort)), (q 48, .inl (E.2.1 0, 4, .inl a_crewDay)), (q 42, .inl (E.2.1 0, 7, .inl a_dFrom)), (q 43, .inl (E.2.1 0, 7, .inl a_dTo)), (q 44, .inl (E.2.1 0, 7, .inl a_dDays)), (q 45, .inl (E.2.1 0, 7, .inl a_dFirst)), (q 56, .inl (E.2.1 0, 7, .inl a_beginsOn))]) (va_Qv (fun (b_beginsOn : (Nat → Int32)) => True) (fun (b_beginsOn : (Nat → Int32)) (t : State) => wB E (va_A [(h0, .inr (12, mG q i_taped i_size i_sort i_what i_at i_end i_worth i_faultKind i_faultPlace i_got i_worked (nI dl) i_isPlanned i_bestDone i_bestCost)), (q 54, .inl (E.2.1 0, 7, .inl a_bestGiven)), (q 52, .inl (E.2.1 0, 512, .inl a_order)), (q 47, .inl (E.2.1 0, 4, .inl a_crewPort)), (q 48, .inl (E.2.1 0, 4, .inl a_crewDay)), (q 42, .inl (E.2.1 0, 7, .inl a_dFrom)), (q 43, .inl (E.2.1 0, 7, .inl a_dTo)), (q 44, .inl (E.2.1 0, 7, .inl a_dDays)), (q 45, .inl (E.2.1 0, 7, .inl a_dFirst)), (q 56, .inl (E.2.1 0, 7, .inl a_beginsOn))] sz) [(h0, .inr (12, mG q i_taped i_size i_sort i_what i_at i_end i_worth i_faultKind i_faultPlace i_got i_worked (nI dl) i_isPlanned i_bestDone i_bestCost)), (q 54, .inl (E.2.1 0, 7, .inl a_bestGiven)), (q 52, .inl (E.2.1 0, 512, .inl a_order)), (q 47, .inl (E.2.1 0, 4, .inl a_crewPort)), (q 48, .inl (E.2.1 0, 4, .inl a_crewDay)), (q 42, .inl (E.2.1 0, 7, .inl a_dFrom)), (q 43, .inl (E.2.1 0, 7, .inl a_dTo)), (q 44, .inl (E.2.1 0, 7, .inl a_dDays)), (q 45, .inl (E.2.1 0, 7, .inl a_dFirst)), (q 56, .inl (E.2.1 0, 7, .inl b_beginsOn))] t) (va_A [(h0, .inr (12, mG q i_taped i_size i_sort i_what i_at i_end i_worth i_faultKind i_faultPlace i_got i_worked (nI dl) i_isPlanned i_bestDone i_bestCost)), (q 54, .inl (E.2.1 0, 7, .inl a_bestGiven)), (q 52, .inl (E.2.1 0, 512, .inl a_order)), (q 47, .inl (E.2.1 0, 4, .inl a_crewPort)), (q 48, .inl (E.2.1 0, 4, .inl a_crewDay)), (q 42, .inl (E.2.1 0, 7, .inl a_dFrom)), (q 43, .inl (E.2.1 0, 7, .inl a_dTo)), (q 44, .inl (E.2.1 0, 7, .inl a_dDays)), (q 45, .inl (E.2.1 0, 7, .inl a_dFirst)), (q 56, .inl (E.2.1 0, 7, .inl a_beginsOn))] sz)) 0 0 (va_A [(h0, .inr (12, mG q i_taped i_size i_sort i_what i_at i_end i_worth i_faultKind i_faultPlace i_got i_worked (nI dl) i_isPlanned i_bestDone i_bestCost)), (q 54, .inl (E.2.1 0, 7, .inl a_bestGiven)), (q 52, .inl (E.2.1 0, 512, .inl a_order)), (q 47, .inl (E.2.1 0, 4, .inl a_crewPort)), (q 48, .inl (E.2.1 0, 4, .inl a_crewDay)), (q 42, .inl (E.2.1 0, 7, .inl a_dFrom)), (q 43, .inl (E.2.1 0, 7, .inl a_dTo)), (q 44, .inl (E.2.1 0, 7, .inl a_dDays)), (q 45, .inl (E.2.1 0, 7, .inl a_dFirst)), (q 56, .inl (E.2.1 0, 7, .inl a_beginsOn))] sz) := by
  refine Met.ofW (cc := cX12_goes) (maxL := 10) (ret := none) (by decide) rfl ?_
  intro p e s m args below meth c s₁ B hml hv
  obtain ⟨rfl, hsz, hP, hkn, hD0, hst⟩ := hv
  have hx := B.exec
  have hb := B.bytes
  have hr := B.returns
  have hts := atoms_spec (ws := wsX12_goes) B.pre
  have hown : s.vm.findClass RX12 = some m.cls := findClass_of_methodNamed B.named
  have hlocks := B.notSynchronized
  subst hsz
  have hD := hD0.self (sz := s.heap.size)
  have hK := hkn.1
  have hAO := hkn.2.2.1
  generalize hAe : va_A [(h0, .inr (12, mG q i_taped i_size i_sort i_what i_at i_end i_worth i_faultKind i_faultPlace i_got i_worked (nI dl) i_isPlanned i_bestDone i_bestCost)), (q 54, .inl (E.2.1 0, 7, .inl a_bestGiven)), (q 52, .inl (E.2.1 0, 512, .inl a_order)), (q 47, .inl (E.2.1 0, 4, .inl a_crewPort)), (q 48, .inl (E.2.1 0, 4, .inl a_crewDay)), (q 42, .inl (E.2.1 0, 7, .inl a_dFrom)), (q 43, .inl (E.2.1 0, 7, .inl a_dTo)), (q 44, .inl (E.2.1 0, 7, .inl a_dDays)), (q 45, .inl (E.2.1 0, 7, .inl a_dFirst)), (q 56, .inl (E.2.1 0, 7, .inl a_beginsOn))] s.heap.size = A at hD hst ⊢
  have hA : ∀ q : Nat, s.heap.size ≤ q → A q := fun q h => by rw [← hAe]; exact Or.inr h
  have hS : va_S A s.heap s.heap [] := va_S.rf
  have hP : va_P E.1 vwCl [(h0, .inr (12, mG q i_taped i_size i_sort i_what i_at i_end i_worth i_faultKind i_faultPlace i_got i_worked (nI dl) i_isPlanned i_bestDone i_bestCost)), (q 54, .inl (E.2.1 0, 7, .inl a_bestGiven)), (q 52, .inl (E.2.1 0, 512, .inl a_order)), (q 47, .inl (E.2.1 0, 4, .inl a_crewPort)), (q 48, .inl (E.2.1 0, 4, .inl a_crewDay)), (q 42, .inl (E.2.1 0, 7, .inl a_dFrom)), (q 43, .inl (E.2.1 0, 7, .inl a_dTo)), (q 44, .inl (E.2.1 0, 7, .inl a_dDays)), (q 45, .inl (E.2.1 0, 7, .inl a_dFirst)), (q 56, .inl (E.2.1 0, 7, .inl a_beginsOn))] s.heap := hP
  have hl := lv_entry ([.ref h0, .int (nI cr)]) (n := 10) (Nat.le_of_ble_eq_true rfl)
  rw [lg_entry_eq]
  generalize (lg_sl ([.ref h0, .int (nI cr)]) ++ List.replicate (10 - (lg_sl ([.ref h0, .int (nI cr)])).length) Slot.unset).toArray = ls at hl ⊢
  have hl : lv_has ls 10 [(0, .ref h0), (1, .int (nI cr))] := hl
  have fl106 := hts (.fieldLink RX12 106 "BoatsHomeModel" "dFrom" "[I") (by first | exact List.mem_of_getElem? (i := 6) rfl | decide +kernel)
  have fl109 := hts (.fieldLink RX12 109 "BoatsHomeModel" "dTo" "[I") (by first | exact List.mem_of_getElem? (i := 10) rfl | decide +kernel)
  have fl112 := hts (.fieldLink RX12 112 "BoatsHomeModel" "dDays" "[I") (by first | exact List.mem_of_getElem? (i := 9) rfl | decide +kernel)
  have fl115 := hts (.fieldLink RX12 115 "BoatsHomeModel" "dFirst" "[I") (by first | exact List.mem_of_getElem? (i := 8) rfl | decide +kernel)
  have fl121 := hts (.fieldLink RX12 121 "BoatsHomeModel" "crewPort" "[I") (by first | exact List.mem_of_getElem? (i := 4) rfl | decide +kernel)
  have fl124 := hts (.fieldLink RX12 124 "BoatsHomeModel" "crewDay" "[I") (by first | exact List.mem_of_getElem? (i := 5) rfl | decide +kernel)
  have fl133 := hts (.fieldLink RX12 133 "BoatsHomeModel" "order" "[I") (by first | exact List.mem_of_getElem? (i := 3) rfl | decide +kernel)
  have fl139 := hts (.fieldLink RX12 139 "BoatsHomeModel" "bestGiven" "[I") (by first | exact List.mem_of_getElem? (i := 2) rfl | decide +kernel)
  have fl145 := hts (.fieldLink RX12 145 "BoatsHomeModel" "beginsOn" "[I") (by first | exact List.mem_of_getElem? (i := 7) rfl | decide +kernel)
  have fl289 := hts (.fieldLink RX12 289 "BoatsHomeModel" "deliveries" "I") (by first | exact List.mem_of_getElem? (i := 1) rfl | decide +kernel)
  have inX12 : ∀ w ∈ u_ws RX12 TX12 59, w ∈ wsX12_goes := by first | exact fun w h9 => (List.mem_cons_of_mem _ (List.mem_append_right _ h9)) | decide +kernel
  refine lv_iconst (v := 0) hx hb dX12_goes_0 (by decide) ?_
  refine lv_istore_n (lv' := [(2, .int 0), (0, .ref h0), (1, .int (nI cr))]) hx hb dX12_goes_1 rfl hl (by decide) rfl (fun ls hl => ?_)
  refine lv_iconst (v := 0) hx hb dX12_goes_2 (by decide) ?_
  refine lv_istore_n (lv' := [(3, .int 0), (2, .int 0), (0, .ref h0), (1, .int (nI cr))]) hx hb dX12_goes_3 rfl hl (by decide) rfl (fun ls hl => ?_)
  refine lv_iconst (v := 0) hx hb dX12_goes_4 (by decide) ?_
  refine lv_istore (lv' := [(4, .int 0), (3, .int 0), (2, .int 0), (0, .ref h0), (1, .int (nI cr))]) hx hb dX12_goes_5 hl (by decide) rfl (fun ls hl => ?_)
  have hPl := hP.sub (ws' := [(h0, .inr (12, mG q i_taped i_size i_sort i_what i_at i_end i_worth i_faultKind i_faultPlace i_got i_worked (nI dl) i_isPlanned i_bestDone i_bestCost)), (q 54, .inl (E.2.1 0, 7, .inl a_bestGiven)), (q 52, .inl (E.2.1 0, 512, .inl a_order)), (q 47, .inl (E.2.1 0, 4, .inl a_crewPort)), (q 48, .inl (E.2.1 0, 4, .inl a_crewDay)), (q 42, .inl (E.2.1 0, 7, .inl a_dFrom)), (q 43, .inl (E.2.1 0, 7, .inl a_dTo)), (q 44, .inl (E.2.1 0, 7, .inl a_dDays)), (q 45, .inl (E.2.1 0, 7, .inl a_dFirst)), (q 56, .inl (E.2.1 0, 7, .inl a_beginsOn))]) [0, 1, 2, 3, 4, 5, 6, 7, 8, 9] rfl
  have hDl := hD.sub (ws' := [(h0, .inr (12, mG q i_taped i_size i_sort i_what i_at i_end i_worth i_faultKind i_faultPlace i_got i_worked (nI dl) i_isPlanned i_bestDone i_bestCost)), (q 54, .inl (E.2.1 0, 7, .inl a_bestGiven)), (q 52, .inl (E.2.1 0, 512, .inl a_order)), (q 47, .inl (E.2.1 0, 4, .inl a_crewPort)), (q 48, .inl (E.2.1 0, 4, .inl a_crewDay)), (q 42, .inl (E.2.1 0, 7, .inl a_dFrom)), (q 43, .inl (E.2.1 0, 7, .inl a_dTo)), (q 44, .inl (E.2.1 0, 7, .inl a_dDays)), (q 45, .inl (E.2.1 0, 7, .inl a_dFirst)), (q 56, .inl (E.2.1 0, 7, .inl a_beginsOn))]) [0, 1, 2, 3, 4, 5, 6, 7, 8, 9] (by decide) rfl
  refine lm_goes1 E h0 q i_taped i_size i_sort i_what i_at i_end i_worth i_faultKind i_faultPlace i_got i_worked i_isPlanned i_bestDone i_bestCost dl cr a_bestGiven a_order a_crewPort a_crewDay a_dFrom a_dTo a_dDays a_dFirst a_beginsOn hx hb hml hown hts hkn hst hA (by omega) hI_order hI_crewPort hI_dFrom hI_dTo (fun n_1 n_2 H locs ls hsv hmv hP hD hS hl => ?_) 9 0 0 0 _ _ _ (by omega) (by omega) (by omega) (by omega) hPl hDl hS (lv_sub hl [3, 4, 2, 1, 0] rfl)
  have hP : va_P E.1 vwCl [(h0, .inr (12, mG q i_taped i_size i_sort i_what i_at i_end i_worth i_faultKind i_faultPlace i_got i_worked (nI dl) i_isPlanned i_bestDone i_bestCost)), (q 54, .inl (E.2.1 0, 7, .inl a_bestGiven)), (q 52, .inl (E.2.1 0, 512, .inl a_order)), (q 47, .inl (E.2.1 0, 4, .inl a_crewPort)), (q 48, .inl (E.2.1 0, 4, .inl a_crewDay)), (q 42, .inl (E.2.1 0, 7, .inl a_dFrom)), (q 43, .inl (E.2.1 0, 7, .inl a_dTo)), (q 44, .inl (E.2.1 0, 7, .inl a_dDays)), (q 45, .inl (E.2.1 0, 7, .inl a_dFirst)), (q 56, .inl (E.2.1 0, 7, .inl a_beginsOn))] H := hP
  have hD : va_D A [(h0, .inr (12, mG q i_taped i_size i_sort i_what i_at i_end i_worth i_faultKind i_faultPlace i_got i_worked (nI dl) i_isPlanned i_bestDone i_bestCost)), (q 54, .inl (E.2.1 0, 7, .inl a_bestGiven)), (q 52, .inl (E.2.1 0, 512, .inl a_order)), (q 47, .inl (E.2.1 0, 4, .inl a_crewPort)), (q 48, .inl (E.2.1 0, 4, .inl a_crewDay)), (q 42, .inl (E.2.1 0, 7, .inl a_dFrom)), (q 43, .inl (E.2.1 0, 7, .inl a_dTo)), (q 44, .inl (E.2.1 0, 7, .inl a_dDays)), (q 45, .inl (E.2.1 0, 7, .inl a_dFirst)), (q 56, .inl (E.2.1 0, 7, .inl a_beginsOn))] := hD
  refine lv_aload_n hx hb dX12_goes_46 rfl (lv_at hl 0 rfl) ?_
  refine va_get (D := E.1) (ci := 12) (v := .ref (q 52)) (C := RX12) (T := TX12) (N := 59) hx hb hts inX12 hown hK hP 0 rfl rfl 52 (by decide) fl133 (fun _ h9 => h9) rfl dX12_goes_47 ?_
  refine lv_sipush (v := 128) hx hb dX12_goes_50 (by decide) ?_
  refine lv_iload_n hx hb dX12_goes_53 rfl (lv_at hl 1 rfl) ?_
  refine lv_imul hx hb dX12_goes_54 ?_
  refine lv_topi (fun x_3 ex_3 => ?_)
  obtain rfl : x_3 = nI (128 * cr) := ex_3.trans (pk_mul 128 cr)
  refine lv_iload_n hx hb dX12_goes_55 rfl (lv_at hl 2 rfl) ?_
  refine lv_iadd hx hb dX12_goes_56 ?_
  refine lv_topi (fun x_4 ex_4 => ?_)
  obtain rfl : x_4 = nI ((128 * cr) + n_1) := ex_4.trans (nI_add (128 * cr) n_1)
  have hi_5 : vp_in (nI ((128 * cr) + n_1)) 512 := vp_in_nI (by omega) (by decide)
  refine va_iald hx hb hK hP 2 0 rfl rfl hi_5 dX12_goes_57 ?_
  refine lv_topi (fun x_6 ex_6 => ?_)
  have hv_7 : digOK x_6 := by rw [ex_6]; exact hI_order _ (vin_cl hi_5)
  refine lv_istore (lv' := [(4, .int x_6), (0, .ref h0), (1, .int (nI cr)), (2, .int (nI n_1)), (3, .int (nI n_2))]) hx hb dX12_goes_58 hl (by decide) rfl (fun ls hl => ?_)
  refine lv_aload_n hx hb dX12_goes_60 rfl (lv_at hl 1 rfl) ?_
  refine va_get (D := E.1) (ci := 12) (v := .ref (q 47)) (C := RX12) (T := TX12) (N := 59) hx hb hts inX12 hown hK hP 0 rfl rfl 47 (by decide) fl121 (fun _ h9 => h9) rfl dX12_goes_61 ?_
  refine lv_iload_n hx hb dX12_goes_64 rfl (lv_at hl 2 rfl) ?_
  have hi_8 : vp_in (nI cr) 4 := vp_in_nI (by omega) (by decide)
  refine va_iald hx hb hK hP 3 0 rfl rfl hi_8 dX12_goes_65 ?_
  refine lv_topi (fun x_9 ex_9 => ?_)
  have hv_10 : inR x_9 (-1) 9 = true := by rw [ex_9]; exact hI_crewPort _ (vin_cl hi_8)
  refine lv_istore (lv' := [(5, .int x_9), (4, .int x_6), (0, .ref h0), (1, .int (nI cr)), (2, .int (nI n_1)), (3, .int (nI n_2))]) hx hb dX12_goes_66 hl (by decide) rfl (fun ls hl => ?_)
  refine lv_aload_n hx hb dX12_goes_68 rfl (lv_at hl 2 rfl) ?_
  refine va_get (D := E.1) (ci := 12) (v := .ref (q 48)) (C := RX12) (T := TX12) (N := 59) hx hb hts inX12 hown hK hP 0 rfl rfl 48 (by decide) fl124 (fun _ h9 => h9) rfl dX12_goes_69 ?_
  refine lv_iload_n hx hb dX12_goes_72 rfl (lv_at hl 3 rfl) ?_
  refine va_iald hx hb hK hP 4 0 rfl rfl hi_8 dX12_goes_73 ?_
  refine lv_topi (fun x_11 ex_11 => ?_)
  refine lv_istore (lv' := [(6, .int x_11), (5, .int x_9), (4, .int x_6), (0, .ref h0), (1, .int (nI cr)), (2, .int (nI n_1)), (3, .int (nI n_2))]) hx hb dX12_goes_74 hl (by decide) rfl (fun ls hl => ?_)
  refine lv_iload_n hx hb dX12_goes_76 rfl (lv_at hl 6 rfl) ?_
  refine lv_iconst (v := 1) hx hb dX12_goes_77 (by decide) ?_
  refine lv_isub hx hb dX12_goes_78 ?_
  refine lv_topi (fun x_12 ex_12 => ?_)
  refine lv_istore (lv' := [(7, .int x_12), (6, .int x_11), (5, .int x_9), (4, .int x_6), (0, .ref h0), (1, .int (nI cr)), (2, .int (nI n_1)), (3, .int (nI n_2))]) hx hb dX12_goes_79 hl (by decide) rfl (fun ls hl => ?_)
  have hPl := hP.sub (ws' := [(h0, .inr (12, mG q i_taped i_size i_sort i_what i_at i_end i_worth i_faultKind i_faultPlace i_got i_worked (nI dl) i_isPlanned i_bestDone i_bestCost)), (q 54, .inl (E.2.1 0, 7, .inl a_bestGiven)), (q 52, .inl (E.2.1 0, 512, .inl a_order)), (q 47, .inl (E.2.1 0, 4, .inl a_crewPort)), (q 48, .inl (E.2.1 0, 4, .inl a_crewDay)), (q 42, .inl (E.2.1 0, 7, .inl a_dFrom)), (q 43, .inl (E.2.1 0, 7, .inl a_dTo)), (q 44, .inl (E.2.1 0, 7, .inl a_dDays)), (q 45, .inl (E.2.1 0, 7, .inl a_dFirst)), (q 56, .inl (E.2.1 0, 7, .inl a_beginsOn))]) [0, 1, 2, 3, 4, 5, 6, 7, 8, 9] rfl
  have hDl := hD.sub (ws' := [(h0, .inr (12, mG q i_taped i_size i_sort i_what i_at i_end i_worth i_faultKind i_faultPlace i_got i_worked (nI dl) i_isPlanned i_bestDone i_bestCost)), (q 54, .inl (E.2.1 0, 7, .inl a_bestGiven)), (q 52, .inl (E.2.1 0, 512, .inl a_order)), (q 47, .inl (E.2.1 0, 4, .inl a_crewPort)), (q 48, .inl (E.2.1 0, 4, .inl a_crewDay)), (q 42, .inl (E.2.1 0, 7, .inl a_dFrom)), (q 43, .inl (E.2.1 0, 7, .inl a_dTo)), (q 44, .inl (E.2.1 0, 7, .inl a_dDays)), (q 45, .inl (E.2.1 0, 7, .inl a_dFirst)), (q 56, .inl (E.2.1 0, 7, .inl a_beginsOn))]) [0, 1, 2, 3, 4, 5, 6, 7, 8, 9] (by decide) rfl
  refine lm_goes2 E h0 q i_taped i_size i_sort i_what i_at i_end i_worth i_faultKind i_faultPlace i_got i_worked i_isPlanned i_bestDone i_bestCost dl x_6 a_bestGiven a_order a_crewPort a_crewDay a_dFrom a_dTo a_dDays a_dFirst hx hb hml hown hts hkn hst hA (by omega) hv_7 hI_order hI_crewPort hI_dFrom hI_dTo (fun n_13 H locs ls  hP hD hS hl => ?_) (n_2 + 1) n_2 x_9 x_11 x_12 a_beginsOn _ _ _ (by omega) (by omega) ex_12 hPl hDl hS (lv_sub hl [4, 3, 2, 1, 0] rfl)
  have hP : va_P E.1 vwCl [(h0, .inr (12, mG q i_taped i_size i_sort i_what i_at i_end i_worth i_faultKind i_faultPlace i_got i_worked (nI dl) i_isPlanned i_bestDone i_bestCost)), (q 54, .inl (E.2.1 0, 7, .inl a_bestGiven)), (q 52, .inl (E.2.1 0, 512, .inl a_order)), (q 47, .inl (E.2.1 0, 4, .inl a_crewPort)), (q 48, .inl (E.2.1 0, 4, .inl a_crewDay)), (q 42, .inl (E.2.1 0, 7, .inl a_dFrom)), (q 43, .inl (E.2.1 0, 7, .inl a_dTo)), (q 44, .inl (E.2.1 0, 7, .inl a_dDays)), (q 45, .inl (E.2.1 0, 7, .inl a_dFirst)), (q 56, .inl (E.2.1 0, 7, .inl n_13))] H := hP
  have hD : va_D A [(h0, .inr (12, mG q i_taped i_size i_sort i_what i_at i_end i_worth i_faultKind i_faultPlace i_got i_worked (nI dl) i_isPlanned i_bestDone i_bestCost)), (q 54, .inl (E.2.1 0, 7, .inl a_bestGiven)), (q 52, .inl (E.2.1 0, 512, .inl a_order)), (q 47, .inl (E.2.1 0, 4, .inl a_crewPort)), (q 48, .inl (E.2.1 0, 4, .inl a_crewDay)), (q 42, .inl (E.2.1 0, 7, .inl a_dFrom)), (q 43, .inl (E.2.1 0, 7, .inl a_dTo)), (q 44, .inl (E.2.1 0, 7, .inl a_dDays)), (q 45, .inl (E.2.1 0, 7, .inl a_dFirst)), (q 56, .inl (E.2.1 0, 7, .inl n_13))] := hD
  have hP9 := hP.sub (ws' := [(h0, .inr (12, mG q i_taped i_size i_sort i_what i_at i_end i_worth i_faultKind i_faultPlace i_got i_worked (nI dl) i_isPlanned i_bestDone i_bestCost)), (q 54, .inl (E.2.1 0, 7, .inl a_bestGiven)), (q 52, .inl (E.2.1 0, 512, .inl a_order)), (q 47, .inl (E.2.1 0, 4, .inl a_crewPort)), (q 48, .inl (E.2.1 0, 4, .inl a_crewDay)), (q 42, .inl (E.2.1 0, 7, .inl a_dFrom)), (q 43, .inl (E.2.1 0, 7, .inl a_dTo)), (q 44, .inl (E.2.1 0, 7, .inl a_dDays)), (q 45, .inl (E.2.1 0, 7, .inl a_dFirst)), (q 56, .inl (E.2.1 0, 7, .inl n_13))]) [0, 1, 2, 3, 4, 5, 6, 7, 8, 9] rfl
  have hD9 := hD.sub (ws' := [(h0, .inr (12, mG q i_taped i_size i_sort i_what i_at i_end i_worth i_faultKind i_faultPlace i_got i_worked (nI dl) i_isPlanned i_bestDone i_bestCost)), (q 54, .inl (E.2.1 0, 7, .inl a_bestGiven)), (q 52, .inl (E.2.1 0, 512, .inl a_order)), (q 47, .inl (E.2.1 0, 4, .inl a_crewPort)), (q 48, .inl (E.2.1 0, 4, .inl a_crewDay)), (q 42, .inl (E.2.1 0, 7, .inl a_dFrom)), (q 43, .inl (E.2.1 0, 7, .inl a_dTo)), (q 44, .inl (E.2.1 0, 7, .inl a_dDays)), (q 45, .inl (E.2.1 0, 7, .inl a_dFirst)), (q 56, .inl (E.2.1 0, 7, .inl n_13))]) [0, 1, 2, 3, 4, 5, 6, 7, 8, 9] (by decide) rfl
  exact W.vret hx hb hr (fun t ht hW => ⟨⟨n_13, rfl, trivial, by rw [ht]; exact hP9, hD9⟩, hS.F ht⟩) hS.2.2 dX12_goes_183
set_option maxHeartbeats 4000000 in
set_option maxRecDepth 100000 in
theorem lm_plan1 {p : Program} {l : Launch} {e : Env} {s : State} {m : MethodId} {args : Array Value} {below : List Frame} {meth : Method} {c : Code} {Q : State → Prop} {A : Nat → Prop} (E : vE) (h0 : Nat) (q : Nat → Nat) (i_taped : Int32) (i_size : Int32) (i_sort : Int32) (i_what : Int32) (i_at : Int32) (i_end : Int32) (i_worth : Int32) (i_faultKind : Int32) (i_faultPlace : Int32) (i_got : Int32) (i_worked : Int32) (i_isPlanned : Int32) (i_bestDone : Int32) (i_bestCost : Int32) (dl : Nat) (wr : va_W) (hx : p.tables.exec = Jvm.exec) (hb : c.code = cX12_plan) (hml : c.maxLocals = 2) (hown : s.vm.findClass RX12 = some m.cls) (hts : ∀ w ∈ wsX12_plan, w.before args s = true) (hkn : kn E s) (hst : st E A s s.heap) (hA : ∀ q : Nat, s.heap.size ≤ q → A q) (kk : ∀ (a_least : Nat → Int32) (H : Heap) (locs : List Loc) (ls : Array Slot), va_P E.1 vwCl ((h0, .inr (12, mG q i_taped i_size i_sort i_what i_at i_end i_worth i_faultKind i_faultPlace i_got i_worked (nI dl) i_isPlanned i_bestDone i_bestCost)) :: (q 51, .inl (E.2.1 0, 512, .inl a_least)) :: wr) H → va_D A ((h0, .inr (12, mG q i_taped i_size i_sort i_what i_at i_end i_worth i_faultKind i_faultPlace i_got i_worked (nI dl) i_isPlanned i_bestDone i_bestCost)) :: (q 51, .inl (E.2.1 0, 512, .inl a_least)) :: wr) → va_S A s.heap H locs → lv_has ls 2 [(0, .ref h0)] → W p l e ({ frames := 8, cells := 0, slots := 0, locals := 240 }) s m args below meth c H locs 0 0 Q (F0 m 34 ls [])) : ∀ (n0 : Nat) (k : Nat) (a_least : Nat → Int32) (H : Heap) (locs : List Loc) (ls : Array Slot), 512 - k < n0 → (k ≤ 512) → va_P E.1 vwCl ((h0, .inr (12, mG q i_taped i_size i_sort i_what i_at i_end i_worth i_faultKind i_faultPlace i_got i_worked (nI dl) i_isPlanned i_bestDone i_bestCost)) :: (q 51, .inl (E.2.1 0, 512, .inl a_least)) :: wr) H → va_D A ((h0, .inr (12, mG q i_taped i_size i_sort i_what i_at i_end i_worth i_faultKind i_faultPlace i_got i_worked (nI dl) i_isPlanned i_bestDone i_bestCost)) :: (q 51, .inl (E.2.1 0, 512, .inl a_least)) :: wr) → va_S A s.heap H locs → lv_has ls 2 [(0, .ref h0), (1, .int (nI k))] → W p l e ({ frames := 8, cells := 0, slots := 0, locals := 240 }) s m args below meth c H locs 0 0 Q (F0 m 2 ls []) := by
  have hK := hkn.1
  have hAO := hkn.2.2.1
  have fl121 := hts (.fieldLink RX12 121 "BoatsHomeModel" "crewPort" "[I") (by first | exact List.mem_of_getElem? (i := 4) rfl | decide +kernel)
  have fl124 := hts (.fieldLink RX12 124 "BoatsHomeModel" "crewDay" "[I") (by first | exact List.mem_of_getElem? (i := 5) rfl | decide +kernel)
  have fl130 := hts (.fieldLink RX12 130 "BoatsHomeModel" "least" "[I") (by first | exact List.mem_of_getElem? (i := 1) rfl | decide +kernel)
  have fl133 := hts (.fieldLink RX12 133 "BoatsHomeModel" "order" "[I") (by first | exact List.mem_of_getElem? (i := 2) rfl | decide +kernel)
  have fl142 := hts (.fieldLink RX12 142 "BoatsHomeModel" "sets" "[I") (by first | exact List.mem_of_getElem? (i := 3) rfl | decide +kernel)
  have fl145 := hts (.fieldLink RX12 145 "BoatsHomeModel" "beginsOn" "[I") (by first | exact List.mem_of_getElem? (i := 9) rfl | decide +kernel)
  have fl289 := hts (.fieldLink RX12 289 "BoatsHomeModel" "deliveries" "I") (by first | exact List.mem_of_getElem? (i := 8) rfl | decide +kernel)
  have fl292 := hts (.fieldLink RX12 292 "BoatsHomeModel" "isPlanned" "Z") (by first | exact List.mem_of_getElem? (i := 10) rfl | decide +kernel)
  have fl300 := hts (.fieldLink RX12 300 "BoatsHomeModel" "bestDone" "I") (by first | exact List.mem_of_getElem? (i := 6) rfl | decide +kernel)
  have fl303 := hts (.fieldLink RX12 303 "BoatsHomeModel" "bestCost" "I") (by first | exact List.mem_of_getElem? (i := 7) rfl | decide +kernel)
  have inX12 : ∀ w ∈ u_ws RX12 TX12 59, w ∈ wsX12_plan := by first | exact fun w h9 => (List.mem_cons_of_mem _ (List.mem_append_right _ h9)) | decide +kernel
  intro n0
  induction n0 with
  | zero =>
    intro k a_least H locs ls hn0
    exact absurd hn0 (Nat.not_lt_zero _)
  | succ n0 ih =>
    intro k a_least H locs ls hn0 hk hP hD hS hl
    refine lv_iload_n hx hb dX12_plan_2 rfl (lv_at hl 1 rfl) ?_
    refine lv_sipush (v := 512) hx hb dX12_plan_3 (by decide) ?_
    refine lv_icmp_ge (tgt := 34) hx hb dX12_plan_6 (by decide) (fun c_1 => ?_) (fun c_1 => ?_)
    · exact kk a_least _ _ _  hP hD hS (lv_sub hl [0] rfl)
    · have hlt : k < 512 := lt_of_nle (a := 512) (by omega) c_1
      refine lv_aload_n hx hb dX12_plan_9 rfl (lv_at hl 0 rfl) ?_
      refine va_get (D := E.1) (ci := 12) (v := .ref (q 51)) (C := RX12) (T := TX12) (N := 59) hx hb hts inX12 hown hK hP 0 rfl rfl 51 (by decide) fl130 (fun _ h9 => h9) rfl dX12_plan_10 ?_
      refine lv_iload_n hx hb dX12_plan_13 rfl (lv_at hl 1 rfl) ?_
      refine lv_iload_n hx hb dX12_plan_14 rfl (lv_at hl 1 rfl) ?_
      refine lv_sipush (v := 128) hx hb dX12_plan_15 (by decide) ?_
      refine lv_irem hx hb dX12_plan_18 (by decide) ?_
      refine lv_topi (fun x_2 ex_2 => ?_)
      obtain rfl : x_2 = nI (k % 128) := ex_2.trans (pk_rem (a := k) (d := 128) (by omega) (by decide) (by decide))
      refine lv_if_ne (tgt := 26) hx hb dX12_plan_19 (by decide) (fun c_3 => ?_) (fun c_3 => ?_)
      · refine lv_iconst (v := (-1)) hx hb dX12_plan_26 (by decide) ?_
        have hi_4 : vp_in (nI k) 512 := vp_in_nI (by omega) (by decide)
        refine va_iast hx hb hK hP hD hS 1 0 rfl rfl hi_4 dX12_plan_27 (fun H locs hP hD hS => ?_)
        have hP : va_P E.1 vwCl ((h0, .inr (12, mG q i_taped i_size i_sort i_what i_at i_end i_worth i_faultKind i_faultPlace i_got i_worked (nI dl) i_isPlanned i_bestDone i_bestCost)) :: (q 51, .inl (E.2.1 0, 512, .inl (upd a_least (nI k).toNatClampNeg (-1)))) :: wr) H := hP
        have hD : va_D A ((h0, .inr (12, mG q i_taped i_size i_sort i_what i_at i_end i_worth i_faultKind i_faultPlace i_got i_worked (nI dl) i_isPlanned i_bestDone i_bestCost)) :: (q 51, .inl (E.2.1 0, 512, .inl (upd a_least (nI k).toNatClampNeg (-1)))) :: wr) := hD
        obtain ⟨f_5, ef_5⟩ : ∃ g : Nat → Int32, g = upd a_least (nI k).toNatClampNeg (-1) := ⟨_, rfl⟩
        rw [← ef_5] at hP hD
        refine lv_iinc (v := (nI (k + 1))) (lv' := [(1, .int (nI (k + 1))), (0, .ref h0)]) hx hb dX12_plan_28 hl (k := 1) rfl (show nI k + 1 = nI (k + 1) from nI_1 k) (by decide) rfl (fun ls hl => ?_)
        refine lv_goto (tgt := 2) hx hb dX12_plan_31 (by decide) ?_
        exact ih (k + 1) f_5 _ _ _ (by omega) (by omega) hP hD hS (lv_sub hl [1, 0] rfl)
      · refine lv_iconst (v := 0) hx hb dX12_plan_22 (by decide) ?_
        refine lv_goto (tgt := 27) hx hb dX12_plan_23 (by decide) ?_
        have hi_6 : vp_in (nI k) 512 := vp_in_nI (by omega) (by decide)
        refine va_iast hx hb hK hP hD hS 1 0 rfl rfl hi_6 dX12_plan_27 (fun H locs hP hD hS => ?_)
        have hP : va_P E.1 vwCl ((h0, .inr (12, mG q i_taped i_size i_sort i_what i_at i_end i_worth i_faultKind i_faultPlace i_got i_worked (nI dl) i_isPlanned i_bestDone i_bestCost)) :: (q 51, .inl (E.2.1 0, 512, .inl (upd a_least (nI k).toNatClampNeg 0))) :: wr) H := hP
        have hD : va_D A ((h0, .inr (12, mG q i_taped i_size i_sort i_what i_at i_end i_worth i_faultKind i_faultPlace i_got i_worked (nI dl) i_isPlanned i_bestDone i_bestCost)) :: (q 51, .inl (E.2.1 0, 512, .inl (upd a_least (nI k).toNatClampNeg 0))) :: wr) := hD
        obtain ⟨f_7, ef_7⟩ : ∃ g : Nat → Int32, g = upd a_least (nI k).toNatClampNeg 0 := ⟨_, rfl⟩
        rw [← ef_7] at hP hD
        refine lv_iinc (v := (nI (k + 1))) (lv' := [(1, .int (nI (k + 1))), (0, .ref h0)]) hx hb dX12_plan_28 hl (k := 1) rfl (show nI k + 1 = nI (k + 1) from nI_1 k) (by decide) rfl (fun ls hl => ?_)
        refine lv_goto (tgt := 2) hx hb dX12_plan_31 (by decide) ?_
        exact ih (k + 1) f_7 _ _ _ (by omega) (by omega) hP hD hS (lv_sub hl [1, 0] rfl)
set_option maxHeartbeats 4000000 in
set_option maxRecDepth 100000 in
theorem lm_plan2 {p : Program} {l : Launch} {e : Env} {s : State} {m : MethodId} {args : Array Value} {below : List Frame} {meth : Method} {c : Code} {Q : State → Prop} {A : Nat → Prop} (E : vE) (h0 : Nat) (q : Nat → Nat) (i_taped : Int32) (i_size : Int32) (i_sort : Int32) (i_what : Int32) (i_at : Int32) (i_end : Int32) (i_worth : Int32) (i_faultKind : Int32) (i_faultPlace : Int32) (i_got : Int32) (i_worked : Int32) (i_isPlanned : Int32) (i_bestDone : Int32) (i_bestCost : Int32) (dl : Nat) (a_crewPort : Nat → Int32) (a_crewDay : Nat → Int32) (a_given : Nat → Int32) (a_bestGiven : Nat → Int32) (a_beginsOn : Nat → Int32) (a_flights : Nat → Int32) (a_dFrom : Nat → Int32) (a_dTo : Nat → Int32) (a_dDays : Nat → Int32) (a_dFirst : Nat → Int32) (a_dLast : Nat → Int32) (hx : p.tables.exec = Jvm.exec) (hb : c.code = cX12_plan) (hml : c.maxLocals = 2) (hown : s.vm.findClass RX12 = some m.cls) (hts : ∀ w ∈ wsX12_plan, w.before args s = true) (hkn : kn E s) (hst : st E A s s.heap) (hA : ∀ q : Nat, s.heap.size ≤ q → A q) (hdl : dl ≤ 7) (hI_crewPort : ∀ k : Nat, k < 4 → inR (a_crewPort k) (-1) 9 = true) (hI_dFrom : ∀ k : Nat, k < 7 → inR (a_dFrom k) 0 9 = true) (hI_dTo : ∀ k : Nat, k < 7 → inR (a_dTo k) 0 9 = true) (kk : ∀ (a_least : Nat → Int32) (a_order : Nat → Int32) (a_sets : Nat → Int32) (H : Heap) (locs : List Loc) (ls : Array Slot), (∀ k : Nat, k < 512 → digOK (a_order k)) → (∀ k : Nat, k < 4 → inR (a_sets k) 0 127 = true) → va_P E.1 vwCl [(h0, .inr (12, mG q i_taped i_size i_sort i_what i_at i_end i_worth i_faultKind i_faultPlace i_got i_worked (nI dl) i_isPlanned i_bestDone i_bestCost)), (q 51, .inl (E.2.1 0, 512, .inl a_least)), (q 52, .inl (E.2.1 0, 512, .inl a_order)), (q 55, .inl (E.2.1 0, 4, .inl a_sets)), (q 47, .inl (E.2.1 0, 4, .inl a_crewPort)), (q 48, .inl (E.2.1 0, 4, .inl a_crewDay)), (q 53, .inl (E.2.1 0, 7, .inl a_given)), (q 54, .inl (E.2.1 0, 7, .inl a_bestGiven)), (q 56, .inl (E.2.1 0, 7, .inl a_beginsOn)), (q 49, .inl (E.2.1 0, 100, .inl a_flights)), (q 42, .inl (E.2.1 0, 7, .inl a_dFrom)), (q 43, .inl (E.2.1 0, 7, .inl a_dTo)), (q 44, .inl (E.2.1 0, 7, .inl a_dDays)), (q 45, .inl (E.2.1 0, 7, .inl a_dFirst)), (q 46, .inl (E.2.1 0, 7, .inl a_dLast))] H → va_D A [(h0, .inr (12, mG q i_taped i_size i_sort i_what i_at i_end i_worth i_faultKind i_faultPlace i_got i_worked (nI dl) i_isPlanned i_bestDone i_bestCost)), (q 51, .inl (E.2.1 0, 512, .inl a_least)), (q 52, .inl (E.2.1 0, 512, .inl a_order)), (q 55, .inl (E.2.1 0, 4, .inl a_sets)), (q 47, .inl (E.2.1 0, 4, .inl a_crewPort)), (q 48, .inl (E.2.1 0, 4, .inl a_crewDay)), (q 53, .inl (E.2.1 0, 7, .inl a_given)), (q 54, .inl (E.2.1 0, 7, .inl a_bestGiven)), (q 56, .inl (E.2.1 0, 7, .inl a_beginsOn)), (q 49, .inl (E.2.1 0, 100, .inl a_flights)), (q 42, .inl (E.2.1 0, 7, .inl a_dFrom)), (q 43, .inl (E.2.1 0, 7, .inl a_dTo)), (q 44, .inl (E.2.1 0, 7, .inl a_dDays)), (q 45, .inl (E.2.1 0, 7, .inl a_dFirst)), (q 46, .inl (E.2.1 0, 7, .inl a_dLast))] → va_S A s.heap H locs → lv_has ls 2 [(0, .ref h0)] → W p l e ({ frames := 8, cells := 0, slots := 0, locals := 240 }) s m args below meth c H locs 0 0 Q (F0 m 95 ls [])) : ∀ (n0 : Nat) (k : Nat) (a_least : Nat → Int32) (a_order : Nat → Int32) (a_sets : Nat → Int32) (H : Heap) (locs : List Loc) (ls : Array Slot), 4 - k < n0 → (k ≤ 4) → (∀ k : Nat, k < 512 → digOK (a_order k)) → (∀ k : Nat, k < 4 → inR (a_sets k) 0 127 = true) → va_P E.1 vwCl [(h0, .inr (12, mG q i_taped i_size i_sort i_what i_at i_end i_worth i_faultKind i_faultPlace i_got i_worked (nI dl) i_isPlanned i_bestDone i_bestCost)), (q 51, .inl (E.2.1 0, 512, .inl a_least)), (q 52, .inl (E.2.1 0, 512, .inl a_order)), (q 55, .inl (E.2.1 0, 4, .inl a_sets)), (q 47, .inl (E.2.1 0, 4, .inl a_crewPort)), (q 48, .inl (E.2.1 0, 4, .inl a_crewDay)), (q 53, .inl (E.2.1 0, 7, .inl a_given)), (q 54, .inl (E.2.1 0, 7, .inl a_bestGiven)), (q 56, .inl (E.2.1 0, 7, .inl a_beginsOn)), (q 49, .inl (E.2.1 0, 100, .inl a_flights)), (q 42, .inl (E.2.1 0, 7, .inl a_dFrom)), (q 43, .inl (E.2.1 0, 7, .inl a_dTo)), (q 44, .inl (E.2.1 0, 7, .inl a_dDays)), (q 45, .inl (E.2.1 0, 7, .inl a_dFirst)), (q 46, .inl (E.2.1 0, 7, .inl a_dLast))] H → va_D A [(h0, .inr (12, mG q i_taped i_size i_sort i_what i_at i_end i_worth i_faultKind i_faultPlace i_got i_worked (nI dl) i_isPlanned i_bestDone i_bestCost)), (q 51, .inl (E.2.1 0, 512, .inl a_least)), (q 52, .inl (E.2.1 0, 512, .inl a_order)), (q 55, .inl (E.2.1 0, 4, .inl a_sets)), (q 47, .inl (E.2.1 0, 4, .inl a_crewPort)), (q 48, .inl (E.2.1 0, 4, .inl a_crewDay)), (q 53, .inl (E.2.1 0, 7, .inl a_given)), (q 54, .inl (E.2.1 0, 7, .inl a_bestGiven)), (q 56, .inl (E.2.1 0, 7, .inl a_beginsOn)), (q 49, .inl (E.2.1 0, 100, .inl a_flights)), (q 42, .inl (E.2.1 0, 7, .inl a_dFrom)), (q 43, .inl (E.2.1 0, 7, .inl a_dTo)), (q 44, .inl (E.2.1 0, 7, .inl a_dDays)), (q 45, .inl (E.2.1 0, 7, .inl a_dFirst)), (q 46, .inl (E.2.1 0, 7, .inl a_dLast))] → va_S A s.heap H locs → lv_has ls 2 [(0, .ref h0), (1, .int (nI k))] → W p l e ({ frames := 8, cells := 0, slots := 0, locals := 240 }) s m args below meth c H locs 0 0 Q (F0 m 36 ls []) := by
  have hK := hkn.1
  have hAO := hkn.2.2.1
  have fl121 := hts (.fieldLink RX12 121 "BoatsHomeModel" "crewPort" "[I") (by first | exact List.mem_of_getElem? (i := 4) rfl | decide +kernel)
  have fl124 := hts (.fieldLink RX12 124 "BoatsHomeModel" "crewDay" "[I") (by first | exact List.mem_of_getElem? (i := 5) rfl | decide +kernel)
  have fl130 := hts (.fieldLink RX12 130 "BoatsHomeModel" "least" "[I") (by first | exact List.mem_of_getElem? (i := 1) rfl | decide +kernel)
  have fl133 := hts (.fieldLink RX12 133 "BoatsHomeModel" "order" "[I") (by first | exact List.mem_of_getElem? (i := 2) rfl | decide +kernel)
  have fl142 := hts (.fieldLink RX12 142 "BoatsHomeModel" "sets" "[I") (by first | exact List.mem_of_getElem? (i := 3) rfl | decide +kernel)
  have fl145 := hts (.fieldLink RX12 145 "BoatsHomeModel" "beginsOn" "[I") (by first | exact List.mem_of_getElem? (i := 9) rfl | decide +kernel)
  have fl289 := hts (.fieldLink RX12 289 "BoatsHomeModel" "deliveries" "I") (by first | exact List.mem_of_getElem? (i := 8) rfl | decide +kernel)
  have fl292 := hts (.fieldLink RX12 292 "BoatsHomeModel" "isPlanned" "Z") (by first | exact List.mem_of_getElem? (i := 10) rfl | decide +kernel)
  have fl300 := hts (.fieldLink RX12 300 "BoatsHomeModel" "bestDone" "I") (by first | exact List.mem_of_getElem? (i := 6) rfl | decide +kernel)
  have fl303 := hts (.fieldLink RX12 303 "BoatsHomeModel" "bestCost" "I") (by first | exact List.mem_of_getElem? (i := 7) rfl | decide +kernel)
  have inX12 : ∀ w ∈ u_ws RX12 TX12 59, w ∈ wsX12_plan := by first | exact fun w h9 => (List.mem_cons_of_mem _ (List.mem_append_right _ h9)) | decide +kernel
  intro n0
  induction n0 with
  | zero =>
    intro k a_least a_order a_sets H locs ls hn0
    exact absurd hn0 (Nat.not_lt_zero _)
  | succ n0 ih =>
    intro k a_least a_order a_sets H locs ls hn0 hk hI_order hI_sets hP hD hS hl
    refine lv_iload_n hx hb dX12_plan_36 rfl (lv_at hl 1 rfl) ?_
    refine lv_iconst (v := 4) hx hb dX12_plan_37 (by decide) ?_
    refine lv_icmp_ge (tgt := 95) hx hb dX12_plan_38 (by decide) (fun c_1 => ?_) (fun c_1 => ?_)
    · exact kk a_least a_order a_sets _ _ _ hI_order hI_sets (hP.sub [0, 1, 2, 3, 4, 5, 6, 7, 8, 9, 10, 11, 12, 13, 14] rfl) (hD.sub [0, 1, 2, 3, 4, 5, 6, 7, 8, 9, 10, 11, 12, 13, 14] (by decide) rfl) hS (lv_sub hl [0] rfl)
    · have hlt : k < 4 := lt_of_nle (a := 4) (by omega) c_1
      refine lv_aload_n hx hb dX12_plan_41 rfl (lv_at hl 0 rfl) ?_
      refine va_get (D := E.1) (ci := 12) (v := .ref (q 52)) (C := RX12) (T := TX12) (N := 59) hx hb hts inX12 hown hK hP 0 rfl rfl 52 (by decide) fl133 (fun _ h9 => h9) rfl dX12_plan_42 ?_
      refine lv_sipush (v := 128) hx hb dX12_plan_45 (by decide) ?_
      refine lv_iload_n hx hb dX12_plan_48 rfl (lv_at hl 1 rfl) ?_
      refine lv_imul hx hb dX12_plan_49 ?_
      refine lv_topi (fun x_2 ex_2 => ?_)
      obtain rfl : x_2 = nI (128 * k) := ex_2.trans (pk_mul 128 k)
      refine lv_iconst (v := 0) hx hb dX12_plan_50 (by decide) ?_
      have hi_3 : vp_in (nI (128 * k)) 512 := vp_in_nI (by omega) (by decide)
      refine va_iast hx hb hK hP hD hS 2 0 rfl rfl hi_3 dX12_plan_51 (fun H locs hP hD hS => ?_)
      have hP : va_P E.1 vwCl [(h0, .inr (12, mG q i_taped i_size i_sort i_what i_at i_end i_worth i_faultKind i_faultPlace i_got i_worked (nI dl) i_isPlanned i_bestDone i_bestCost)), (q 51, .inl (E.2.1 0, 512, .inl a_least)), (q 52, .inl (E.2.1 0, 512, .inl (upd a_order (nI (128 * k)).toNatClampNeg 0))), (q 55, .inl (E.2.1 0, 4, .inl a_sets)), (q 47, .inl (E.2.1 0, 4, .inl a_crewPort)), (q 48, .inl (E.2.1 0, 4, .inl a_crewDay)), (q 53, .inl (E.2.1 0, 7, .inl a_given)), (q 54, .inl (E.2.1 0, 7, .inl a_bestGiven)), (q 56, .inl (E.2.1 0, 7, .inl a_beginsOn)), (q 49, .inl (E.2.1 0, 100, .inl a_flights)), (q 42, .inl (E.2.1 0, 7, .inl a_dFrom)), (q 43, .inl (E.2.1 0, 7, .inl a_dTo)), (q 44, .inl (E.2.1 0, 7, .inl a_dDays)), (q 45, .inl (E.2.1 0, 7, .inl a_dFirst)), (q 46, .inl (E.2.1 0, 7, .inl a_dLast))] H := hP
      have hD : va_D A [(h0, .inr (12, mG q i_taped i_size i_sort i_what i_at i_end i_worth i_faultKind i_faultPlace i_got i_worked (nI dl) i_isPlanned i_bestDone i_bestCost)), (q 51, .inl (E.2.1 0, 512, .inl a_least)), (q 52, .inl (E.2.1 0, 512, .inl (upd a_order (nI (128 * k)).toNatClampNeg 0))), (q 55, .inl (E.2.1 0, 4, .inl a_sets)), (q 47, .inl (E.2.1 0, 4, .inl a_crewPort)), (q 48, .inl (E.2.1 0, 4, .inl a_crewDay)), (q 53, .inl (E.2.1 0, 7, .inl a_given)), (q 54, .inl (E.2.1 0, 7, .inl a_bestGiven)), (q 56, .inl (E.2.1 0, 7, .inl a_beginsOn)), (q 49, .inl (E.2.1 0, 100, .inl a_flights)), (q 42, .inl (E.2.1 0, 7, .inl a_dFrom)), (q 43, .inl (E.2.1 0, 7, .inl a_dTo)), (q 44, .inl (E.2.1 0, 7, .inl a_dDays)), (q 45, .inl (E.2.1 0, 7, .inl a_dFirst)), (q 46, .inl (E.2.1 0, 7, .inl a_dLast))] := hD
      obtain ⟨f_4, ef_4⟩ : ∃ g : Nat → Int32, g = upd a_order (nI (128 * k)).toNatClampNeg 0 := ⟨_, rfl⟩
      rw [← ef_4] at hP hD
      have hI_5 : ∀ k : Nat, k < 512 → digOK (f_4 k) := by rw [ef_4]; exact all_upd (P := fun z => digOK z) hI_order (dg_OK (dg0 0) (by decide))
      refine lv_aload_n hx hb dX12_plan_52 rfl (lv_at hl 0 rfl) ?_
      refine va_get (D := E.1) (ci := 12) (v := .ref (q 55)) (C := RX12) (T := TX12) (N := 59) hx hb hts inX12 hown hK hP 0 rfl rfl 55 (by decide) fl142 (fun _ h9 => h9) rfl dX12_plan_53 ?_
      refine lv_iload_n hx hb dX12_plan_56 rfl (lv_at hl 1 rfl) ?_
      refine lv_iconst (v := 0) hx hb dX12_plan_57 (by decide) ?_
      have hi_6 : vp_in (nI k) 4 := vp_in_nI (by omega) (by decide)
      refine va_iast hx hb hK hP hD hS 3 0 rfl rfl hi_6 dX12_plan_58 (fun H locs hP hD hS => ?_)
      have hP : va_P E.1 vwCl [(h0, .inr (12, mG q i_taped i_size i_sort i_what i_at i_end i_worth i_faultKind i_faultPlace i_got i_worked (nI dl) i_isPlanned i_bestDone i_bestCost)), (q 51, .inl (E.2.1 0, 512, .inl a_least)), (q 52, .inl (E.2.1 0, 512, .inl f_4)), (q 55, .inl (E.2.1 0, 4, .inl (upd a_sets (nI k).toNatClampNeg 0))), (q 47, .inl (E.2.1 0, 4, .inl a_crewPort)), (q 48, .inl (E.2.1 0, 4, .inl a_crewDay)), (q 53, .inl (E.2.1 0, 7, .inl a_given)), (q 54, .inl (E.2.1 0, 7, .inl a_bestGiven)), (q 56, .inl (E.2.1 0, 7, .inl a_beginsOn)), (q 49, .inl (E.2.1 0, 100, .inl a_flights)), (q 42, .inl (E.2.1 0, 7, .inl a_dFrom)), (q 43, .inl (E.2.1 0, 7, .inl a_dTo)), (q 44, .inl (E.2.1 0, 7, .inl a_dDays)), (q 45, .inl (E.2.1 0, 7, .inl a_dFirst)), (q 46, .inl (E.2.1 0, 7, .inl a_dLast))] H := hP
      have hD : va_D A [(h0, .inr (12, mG q i_taped i_size i_sort i_what i_at i_end i_worth i_faultKind i_faultPlace i_got i_worked (nI dl) i_isPlanned i_bestDone i_bestCost)), (q 51, .inl (E.2.1 0, 512, .inl a_least)), (q 52, .inl (E.2.1 0, 512, .inl f_4)), (q 55, .inl (E.2.1 0, 4, .inl (upd a_sets (nI k).toNatClampNeg 0))), (q 47, .inl (E.2.1 0, 4, .inl a_crewPort)), (q 48, .inl (E.2.1 0, 4, .inl a_crewDay)), (q 53, .inl (E.2.1 0, 7, .inl a_given)), (q 54, .inl (E.2.1 0, 7, .inl a_bestGiven)), (q 56, .inl (E.2.1 0, 7, .inl a_beginsOn)), (q 49, .inl (E.2.1 0, 100, .inl a_flights)), (q 42, .inl (E.2.1 0, 7, .inl a_dFrom)), (q 43, .inl (E.2.1 0, 7, .inl a_dTo)), (q 44, .inl (E.2.1 0, 7, .inl a_dDays)), (q 45, .inl (E.2.1 0, 7, .inl a_dFirst)), (q 46, .inl (E.2.1 0, 7, .inl a_dLast))] := hD
      obtain ⟨f_7, ef_7⟩ : ∃ g : Nat → Int32, g = upd a_sets (nI k).toNatClampNeg 0 := ⟨_, rfl⟩
      rw [← ef_7] at hP hD
      have hI_8 : ∀ k : Nat, k < 4 → inR (f_7 k) 0 127 = true := by rw [ef_7]; exact all_upd (P := fun z => inR z 0 127 = true) hI_sets (by decide)
      refine lv_aload_n hx hb dX12_plan_59 rfl (lv_at hl 0 rfl) ?_
      refine va_get (D := E.1) (ci := 12) (v := .ref (q 47)) (C := RX12) (T := TX12) (N := 59) hx hb hts inX12 hown hK hP 0 rfl rfl 47 (by decide) fl121 (fun _ h9 => h9) rfl dX12_plan_60 ?_
      refine lv_iload_n hx hb dX12_plan_63 rfl (lv_at hl 1 rfl) ?_
      refine va_iald hx hb hK hP 4 0 rfl rfl hi_6 dX12_plan_64 ?_
      refine lv_topi (fun x_9 ex_9 => ?_)
      have hv_10 : inR x_9 (-1) 9 = true := by rw [ex_9]; exact hI_crewPort _ (vin_cl hi_6)
      refine lv_iconst (v := (-1)) hx hb dX12_plan_65 (by decide) ?_
      refine lv_icmp_eq (tgt := 89) hx hb dX12_plan_66 (by decide) (fun c_11 => ?_) (fun c_11 => ?_)
      · refine lv_iinc (v := (nI (k + 1))) (lv' := [(1, .int (nI (k + 1))), (0, .ref h0)]) hx hb dX12_plan_89 hl (k := 1) rfl (show nI k + 1 = nI (k + 1) from nI_1 k) (by decide) rfl (fun ls hl => ?_)
        refine lv_goto (tgt := 36) hx hb dX12_plan_92 (by decide) ?_
        exact ih (k + 1) a_least f_4 f_7 _ _ _ (by omega) (by omega) hI_5 hI_8 (hP.sub [0, 1, 2, 3, 4, 5, 6, 7, 8, 9, 10, 11, 12, 13, 14] rfl) (hD.sub [0, 1, 2, 3, 4, 5, 6, 7, 8, 9, 10, 11, 12, 13, 14] (by decide) rfl) hS (lv_sub hl [1, 0] rfl)
      · refine lv_aload_n hx hb dX12_plan_69 rfl (lv_at hl 0 rfl) ?_
        refine lv_iload_n hx hb dX12_plan_70 rfl (lv_at hl 1 rfl) ?_
        refine lv_aload_n hx hb dX12_plan_71 rfl (lv_at hl 0 rfl) ?_
        refine va_get (D := E.1) (ci := 12) (v := .ref (q 47)) (C := RX12) (T := TX12) (N := 59) hx hb hts inX12 hown hK hP 0 rfl rfl 47 (by decide) fl121 (fun _ h9 => h9) rfl dX12_plan_72 ?_
        refine lv_iload_n hx hb dX12_plan_75 rfl (lv_at hl 1 rfl) ?_
        refine va_iald hx hb hK hP 4 0 rfl rfl hi_6 dX12_plan_76 ?_
        refine lv_topi (fun x_12 ex_12 => ?_)
        have hv_13 : inR x_12 (-1) 9 = true := by rw [ex_12]; exact hI_crewPort _ (vin_cl hi_6)
        obtain ⟨w_14, hw_14, ew_14⟩ := cp_nI hv_13 (fun h => c_11 (ex_9.trans (ex_12.symm.trans h)))
        subst ew_14
        refine lv_aload_n hx hb dX12_plan_77 rfl (lv_at hl 0 rfl) ?_
        refine va_get (D := E.1) (ci := 12) (v := .ref (q 48)) (C := RX12) (T := TX12) (N := 59) hx hb hts inX12 hown hK hP 0 rfl rfl 48 (by decide) fl124 (fun _ h9 => h9) rfl dX12_plan_78 ?_
        refine lv_iload_n hx hb dX12_plan_81 rfl (lv_at hl 1 rfl) ?_
        refine va_iald hx hb hK hP 5 0 rfl rfl hi_6 dX12_plan_82 ?_
        refine lv_topi (fun x_15 ex_15 => ?_)
        refine lv_iconst (v := 0) hx hb dX12_plan_83 (by decide) ?_
        refine lv_iconst (v := 0) hx hb dX12_plan_84 (by decide) ?_
        refine lv_iconst (v := 0) hx hb dX12_plan_85 (by decide) ?_
        have hPc := hP.sub (ws' := [(h0, .inr (12, mG q i_taped i_size i_sort i_what i_at i_end i_worth i_faultKind i_faultPlace i_got i_worked (nI dl) i_isPlanned i_bestDone i_bestCost)), (q 51, .inl (E.2.1 0, 512, .inl a_least)), (q 52, .inl (E.2.1 0, 512, .inl f_4)), (q 49, .inl (E.2.1 0, 100, .inl a_flights)), (q 42, .inl (E.2.1 0, 7, .inl a_dFrom)), (q 43, .inl (E.2.1 0, 7, .inl a_dTo)), (q 44, .inl (E.2.1 0, 7, .inl a_dDays)), (q 45, .inl (E.2.1 0, 7, .inl a_dFirst)), (q 46, .inl (E.2.1 0, 7, .inl a_dLast))]) [0, 1, 2, 9, 10, 11, 12, 13, 14] rfl
        have hDc := hD.sub (ws' := [(h0, .inr (12, mG q i_taped i_size i_sort i_what i_at i_end i_worth i_faultKind i_faultPlace i_got i_worked (nI dl) i_isPlanned i_bestDone i_bestCost)), (q 51, .inl (E.2.1 0, 512, .inl a_least)), (q 52, .inl (E.2.1 0, 512, .inl f_4)), (q 49, .inl (E.2.1 0, 100, .inl a_flights)), (q 42, .inl (E.2.1 0, 7, .inl a_dFrom)), (q 43, .inl (E.2.1 0, 7, .inl a_dTo)), (q 44, .inl (E.2.1 0, 7, .inl a_dDays)), (q 45, .inl (E.2.1 0, 7, .inl a_dFirst)), (q 46, .inl (E.2.1 0, 7, .inl a_dLast))]) [0, 1, 2, 9, 10, 11, 12, 13, 14] (by decide) rfl
        have hFc := va_free (wc := [(h0, .inr (12, mG q i_taped i_size i_sort i_what i_at i_end i_worth i_faultKind i_faultPlace i_got i_worked (nI dl) i_isPlanned i_bestDone i_bestCost)), (q 51, .inl (E.2.1 0, 512, .inl a_least)), (q 52, .inl (E.2.1 0, 512, .inl f_4)), (q 49, .inl (E.2.1 0, 100, .inl a_flights)), (q 42, .inl (E.2.1 0, 7, .inl a_dFrom)), (q 43, .inl (E.2.1 0, 7, .inl a_dTo)), (q 44, .inl (E.2.1 0, 7, .inl a_dDays)), (q 45, .inl (E.2.1 0, 7, .inl a_dFirst)), (q 46, .inl (E.2.1 0, 7, .inl a_dLast))]) hD hS hA [0, 1, 2, 9, 10, 11, 12, 13, 14] rfl
        refine va_callv (va_runV (As := [.int (nI k), .int (nI w_14), .int x_15, .int 0, .int 0, .int 0]) (rest := []) ⟨hx, hb, hml, hown, hts⟩ (c_X12_tries0 l E h0 q i_taped i_size i_sort i_what i_at i_end i_worth i_faultKind i_faultPlace i_got i_worked i_isPlanned i_bestDone i_bestCost dl k w_14 0 0 a_least f_4 a_flights a_dFrom a_dTo a_dDays a_dFirst a_dLast x_15 0 H.size (by omega) (by omega) (by decide) hdl (by decide) (dg0 0) hI_5 hI_dFrom hI_dTo) (cwV 6 hts gX12_plan_X12_tries rfl rfl rfl hdV_X12_tries ⟨Nat.le_of_ble_eq_true rfl, Nat.le_of_ble_eq_true rfl⟩) ⟨pcW_blind, va_recv hK hPc (ci := 12) (q0 := 0) rfl rfl, (pcW_pre hPc hkn hDc hst hS hFc)⟩ rfl rfl hl.1 rfl (lv_room (Nat.le_of_ble_eq_true rfl)) dX12_plan_86 ⟨Nat.le_of_ble_eq_true rfl, Nat.le_of_ble_eq_true rfl⟩) hS (fun q _ h => hFc q h) hFc (fun u t H1 locs ht hvm hw_17 hB hz1 hk1 hS => ?_)
        obtain ⟨u_18, u_19⟩ := u
        obtain ⟨hf_20, hP1, hD1⟩ := hB
        rw [ht] at hP1
        try dsimp only at hw_17
        obtain ⟨hP, hD⟩ := va_join (wr := [(q 55, .inl (E.2.1 0, 4, .inl f_7)), (q 47, .inl (E.2.1 0, 4, .inl a_crewPort)), (q 48, .inl (E.2.1 0, 4, .inl a_crewDay)), (q 53, .inl (E.2.1 0, 7, .inl a_given)), (q 54, .inl (E.2.1 0, 7, .inl a_bestGiven)), (q 56, .inl (E.2.1 0, 7, .inl a_beginsOn))]) (w1 := [(h0, .inr (12, mG q i_taped i_size i_sort i_what i_at i_end i_worth i_faultKind i_faultPlace i_got i_worked (nI dl) i_isPlanned i_bestDone i_bestCost)), (q 51, .inl (E.2.1 0, 512, .inl u_18)), (q 52, .inl (E.2.1 0, 512, .inl u_19)), (q 49, .inl (E.2.1 0, 100, .inl a_flights)), (q 42, .inl (E.2.1 0, 7, .inl a_dFrom)), (q 43, .inl (E.2.1 0, 7, .inl a_dTo)), (q 44, .inl (E.2.1 0, 7, .inl a_dDays)), (q 45, .inl (E.2.1 0, 7, .inl a_dFirst)), (q 46, .inl (E.2.1 0, 7, .inl a_dLast))]) hP hD [0, 1, 2, 9, 10, 11, 12, 13, 14] [3, 4, 5, 6, 7, 8] rfl rfl (by decide) (by decide) hk1 hFc hP1 hD1
        generalize H1 = H at hP hS ⊢
        have hP : va_P E.1 vwCl [(q 55, .inl (E.2.1 0, 4, .inl f_7)), (q 47, .inl (E.2.1 0, 4, .inl a_crewPort)), (q 48, .inl (E.2.1 0, 4, .inl a_crewDay)), (q 53, .inl (E.2.1 0, 7, .inl a_given)), (q 54, .inl (E.2.1 0, 7, .inl a_bestGiven)), (q 56, .inl (E.2.1 0, 7, .inl a_beginsOn)), (h0, .inr (12, mG q i_taped i_size i_sort i_what i_at i_end i_worth i_faultKind i_faultPlace i_got i_worked (nI dl) i_isPlanned i_bestDone i_bestCost)), (q 51, .inl (E.2.1 0, 512, .inl u_18)), (q 52, .inl (E.2.1 0, 512, .inl u_19)), (q 49, .inl (E.2.1 0, 100, .inl a_flights)), (q 42, .inl (E.2.1 0, 7, .inl a_dFrom)), (q 43, .inl (E.2.1 0, 7, .inl a_dTo)), (q 44, .inl (E.2.1 0, 7, .inl a_dDays)), (q 45, .inl (E.2.1 0, 7, .inl a_dFirst)), (q 46, .inl (E.2.1 0, 7, .inl a_dLast))] H := hP
        have hD : va_D A [(q 55, .inl (E.2.1 0, 4, .inl f_7)), (q 47, .inl (E.2.1 0, 4, .inl a_crewPort)), (q 48, .inl (E.2.1 0, 4, .inl a_crewDay)), (q 53, .inl (E.2.1 0, 7, .inl a_given)), (q 54, .inl (E.2.1 0, 7, .inl a_bestGiven)), (q 56, .inl (E.2.1 0, 7, .inl a_beginsOn)), (h0, .inr (12, mG q i_taped i_size i_sort i_what i_at i_end i_worth i_faultKind i_faultPlace i_got i_worked (nI dl) i_isPlanned i_bestDone i_bestCost)), (q 51, .inl (E.2.1 0, 512, .inl u_18)), (q 52, .inl (E.2.1 0, 512, .inl u_19)), (q 49, .inl (E.2.1 0, 100, .inl a_flights)), (q 42, .inl (E.2.1 0, 7, .inl a_dFrom)), (q 43, .inl (E.2.1 0, 7, .inl a_dTo)), (q 44, .inl (E.2.1 0, 7, .inl a_dDays)), (q 45, .inl (E.2.1 0, 7, .inl a_dFirst)), (q 46, .inl (E.2.1 0, 7, .inl a_dLast))] := hD
        refine lv_iinc (v := (nI (k + 1))) (lv' := [(1, .int (nI (k + 1))), (0, .ref h0)]) hx hb dX12_plan_89 hl (k := 1) rfl (show nI k + 1 = nI (k + 1) from nI_1 k) (by decide) rfl (fun ls hl => ?_)
        refine lv_goto (tgt := 36) hx hb dX12_plan_92 (by decide) ?_
        exact ih (k + 1) u_18 u_19 f_7 _ _ _ (by omega) (by omega) hf_20 hI_8 (hP.sub [6, 7, 8, 0, 1, 2, 3, 4, 5, 9, 10, 11, 12, 13, 14] rfl) (hD.sub [6, 7, 8, 0, 1, 2, 3, 4, 5, 9, 10, 11, 12, 13, 14] (by decide) rfl) hS (lv_sub hl [1, 0] rfl)
set_option maxHeartbeats 4000000 in
set_option maxRecDepth 100000 in
theorem lm_plan3 {p : Program} {l : Launch} {e : Env} {s : State} {m : MethodId} {args : Array Value} {below : List Frame} {meth : Method} {c : Code} {Q : State → Prop} {A : Nat → Prop} (E : vE) (h0 : Nat) (q : Nat → Nat) (i_taped : Int32) (i_size : Int32) (i_sort : Int32) (i_what : Int32) (i_at : Int32) (i_end : Int32) (i_worth : Int32) (i_faultKind : Int32) (i_faultPlace : Int32) (i_got : Int32) (i_worked : Int32) (i_isPlanned : Int32) (i_bestDone : Int32) (i_bestCost : Int32) (dl : Nat) (wr : va_W) (hx : p.tables.exec = Jvm.exec) (hb : c.code = cX12_plan) (hml : c.maxLocals = 2) (hown : s.vm.findClass RX12 = some m.cls) (hts : ∀ w ∈ wsX12_plan, w.before args s = true) (hkn : kn E s) (hst : st E A s s.heap) (hA : ∀ q : Nat, s.heap.size ≤ q → A q) (hdl : dl ≤ 7) (kk : ∀ (a_beginsOn : Nat → Int32) (H : Heap) (locs : List Loc) (ls : Array Slot), va_P E.1 vwCl ((h0, .inr (12, mG q i_taped i_size i_sort i_what i_at i_end i_worth i_faultKind i_faultPlace i_got i_worked (nI dl) i_isPlanned i_bestDone i_bestCost)) :: (q 56, .inl (E.2.1 0, 7, .inl a_beginsOn)) :: wr) H → va_D A ((h0, .inr (12, mG q i_taped i_size i_sort i_what i_at i_end i_worth i_faultKind i_faultPlace i_got i_worked (nI dl) i_isPlanned i_bestDone i_bestCost)) :: (q 56, .inl (E.2.1 0, 7, .inl a_beginsOn)) :: wr) → va_S A s.heap H locs → lv_has ls 2 [(0, .ref h0)] → W p l e ({ frames := 8, cells := 0, slots := 0, locals := 240 }) s m args below meth c H locs 0 0 Q (F0 m 133 ls [])) : ∀ (n0 : Nat) (k : Nat) (a_beginsOn : Nat → Int32) (H : Heap) (locs : List Loc) (ls : Array Slot), 8 - k < n0 → (k ≤ 7) → va_P E.1 vwCl ((h0, .inr (12, mG q i_taped i_size i_sort i_what i_at i_end i_worth i_faultKind i_faultPlace i_got i_worked (nI dl) i_isPlanned i_bestDone i_bestCost)) :: (q 56, .inl (E.2.1 0, 7, .inl a_beginsOn)) :: wr) H → va_D A ((h0, .inr (12, mG q i_taped i_size i_sort i_what i_at i_end i_worth i_faultKind i_faultPlace i_got i_worked (nI dl) i_isPlanned i_bestDone i_bestCost)) :: (q 56, .inl (E.2.1 0, 7, .inl a_beginsOn)) :: wr) → va_S A s.heap H locs → lv_has ls 2 [(0, .ref h0), (1, .int (nI k))] → W p l e ({ frames := 8, cells := 0, slots := 0, locals := 240 }) s m args below meth c H locs 0 0 Q (F0 m 112 ls []) := by
  have hK := hkn.1
  have hAO := hkn.2.2.1
  have fl121 := hts (.fieldLink RX12 121 "BoatsHomeModel" "crewPort" "[I") (by first | exact List.mem_of_getElem? (i := 4) rfl | decide +kernel)
  have fl124 := hts (.fieldLink RX12 124 "BoatsHomeModel" "crewDay" "[I") (by first | exact List.mem_of_getElem? (i := 5) rfl | decide +kernel)
  have fl130 := hts (.fieldLink RX12 130 "BoatsHomeModel" "least" "[I") (by first | exact List.mem_of_getElem? (i := 1) rfl | decide +kernel)
  have fl133 := hts (.fieldLink RX12 133 "BoatsHomeModel" "order" "[I") (by first | exact List.mem_of_getElem? (i := 2) rfl | decide +kernel)
  have fl142 := hts (.fieldLink RX12 142 "BoatsHomeModel" "sets" "[I") (by first | exact List.mem_of_getElem? (i := 3) rfl | decide +kernel)
  have fl145 := hts (.fieldLink RX12 145 "BoatsHomeModel" "beginsOn" "[I") (by first | exact List.mem_of_getElem? (i := 9) rfl | decide +kernel)
  have fl289 := hts (.fieldLink RX12 289 "BoatsHomeModel" "deliveries" "I") (by first | exact List.mem_of_getElem? (i := 8) rfl | decide +kernel)
  have fl292 := hts (.fieldLink RX12 292 "BoatsHomeModel" "isPlanned" "Z") (by first | exact List.mem_of_getElem? (i := 10) rfl | decide +kernel)
  have fl300 := hts (.fieldLink RX12 300 "BoatsHomeModel" "bestDone" "I") (by first | exact List.mem_of_getElem? (i := 6) rfl | decide +kernel)
  have fl303 := hts (.fieldLink RX12 303 "BoatsHomeModel" "bestCost" "I") (by first | exact List.mem_of_getElem? (i := 7) rfl | decide +kernel)
  have inX12 : ∀ w ∈ u_ws RX12 TX12 59, w ∈ wsX12_plan := by first | exact fun w h9 => (List.mem_cons_of_mem _ (List.mem_append_right _ h9)) | decide +kernel
  intro n0
  induction n0 with
  | zero =>
    intro k a_beginsOn H locs ls hn0
    exact absurd hn0 (Nat.not_lt_zero _)
  | succ n0 ih =>
    intro k a_beginsOn H locs ls hn0 hk hP hD hS hl
    refine lv_iload_n hx hb dX12_plan_112 rfl (lv_at hl 1 rfl) ?_
    refine lv_aload_n hx hb dX12_plan_113 rfl (lv_at hl 0 rfl) ?_
    refine va_get (D := E.1) (ci := 12) (v := .int (nI dl)) (C := RX12) (T := TX12) (N := 59) hx hb hts inX12 hown hK hP 0 rfl rfl 41 (by decide) fl289 (fun _ h9 => h9) rfl dX12_plan_114 ?_
    refine lv_icmp_ge (tgt := 133) hx hb dX12_plan_117 (by decide) (fun c_1 => ?_) (fun c_1 => ?_)
    · exact kk a_beginsOn _ _ _  hP hD hS (lv_sub hl [0] rfl)
    · have hlt : k < 7 := by have := lt_of_nle (by omega) c_1; omega
      refine lv_aload_n hx hb dX12_plan_120 rfl (lv_at hl 0 rfl) ?_
      refine va_get (D := E.1) (ci := 12) (v := .ref (q 56)) (C := RX12) (T := TX12) (N := 59) hx hb hts inX12 hown hK hP 0 rfl rfl 56 (by decide) fl145 (fun _ h9 => h9) rfl dX12_plan_121 ?_
      refine lv_iload_n hx hb dX12_plan_124 rfl (lv_at hl 1 rfl) ?_
      refine lv_iconst (v := (-1)) hx hb dX12_plan_125 (by decide) ?_
      have hi_2 : vp_in (nI k) 7 := vp_in_nI (by omega) (by decide)
      refine va_iast hx hb hK hP hD hS 1 0 rfl rfl hi_2 dX12_plan_126 (fun H locs hP hD hS => ?_)
      have hP : va_P E.1 vwCl ((h0, .inr (12, mG q i_taped i_size i_sort i_what i_at i_end i_worth i_faultKind i_faultPlace i_got i_worked (nI dl) i_isPlanned i_bestDone i_bestCost)) :: (q 56, .inl (E.2.1 0, 7, .inl (upd a_beginsOn (nI k).toNatClampNeg (-1)))) :: wr) H := hP
      have hD : va_D A ((h0, .inr (12, mG q i_taped i_size i_sort i_what i_at i_end i_worth i_faultKind i_faultPlace i_got i_worked (nI dl) i_isPlanned i_bestDone i_bestCost)) :: (q 56, .inl (E.2.1 0, 7, .inl (upd a_beginsOn (nI k).toNatClampNeg (-1)))) :: wr) := hD
      obtain ⟨f_3, ef_3⟩ : ∃ g : Nat → Int32, g = upd a_beginsOn (nI k).toNatClampNeg (-1) := ⟨_, rfl⟩
      rw [← ef_3] at hP hD
      refine lv_iinc (v := (nI (k + 1))) (lv' := [(1, .int (nI (k + 1))), (0, .ref h0)]) hx hb dX12_plan_127 hl (k := 1) rfl (show nI k + 1 = nI (k + 1) from nI_1 k) (by decide) rfl (fun ls hl => ?_)
      refine lv_goto (tgt := 112) hx hb dX12_plan_130 (by decide) ?_
      exact ih (k + 1) f_3 _ _ _ (by omega) (by omega) hP hD hS (lv_sub hl [1, 0] rfl)
set_option maxHeartbeats 4000000 in
set_option maxRecDepth 100000 in
theorem lm_plan4 {p : Program} {l : Launch} {e : Env} {s : State} {m : MethodId} {args : Array Value} {below : List Frame} {meth : Method} {c : Code} {Q : State → Prop} {A : Nat → Prop} (E : vE) (h0 : Nat) (q : Nat → Nat) (i_taped : Int32) (i_size : Int32) (i_sort : Int32) (i_what : Int32) (i_at : Int32) (i_end : Int32) (i_worth : Int32) (i_faultKind : Int32) (i_faultPlace : Int32) (i_got : Int32) (i_worked : Int32) (i_isPlanned : Int32) (i_bestDone : Int32) (i_bestCost : Int32) (dl : Nat) (a_bestGiven : Nat → Int32) (a_order : Nat → Int32) (a_crewPort : Nat → Int32) (a_crewDay : Nat → Int32) (a_dFrom : Nat → Int32) (a_dTo : Nat → Int32) (a_dDays : Nat → Int32) (a_dFirst : Nat → Int32) (wr : va_W) (hx : p.tables.exec = Jvm.exec) (hb : c.code = cX12_plan) (hml : c.maxLocals = 2) (hown : s.vm.findClass RX12 = some m.cls) (hts : ∀ w ∈ wsX12_plan, w.before args s = true) (hkn : kn E s) (hst : st E A s s.heap) (hA : ∀ q : Nat, s.heap.size ≤ q → A q) (hdl : dl ≤ 7) (hI_order : ∀ k : Nat, k < 512 → digOK (a_order k)) (hI_crewPort : ∀ k : Nat, k < 4 → inR (a_crewPort k) (-1) 9 = true) (hI_dFrom : ∀ k : Nat, k < 7 → inR (a_dFrom k) 0 9 = true) (hI_dTo : ∀ k : Nat, k < 7 → inR (a_dTo k) 0 9 = true) (kk : ∀ (a_beginsOn : Nat → Int32) (H : Heap) (locs : List Loc) (ls : Array Slot), va_P E.1 vwCl ((h0, .inr (12, mG q i_taped i_size i_sort i_what i_at i_end i_worth i_faultKind i_faultPlace i_got i_worked (nI dl) i_isPlanned i_bestDone i_bestCost)) :: (q 54, .inl (E.2.1 0, 7, .inl a_bestGiven)) :: (q 52, .inl (E.2.1 0, 512, .inl a_order)) :: (q 47, .inl (E.2.1 0, 4, .inl a_crewPort)) :: (q 48, .inl (E.2.1 0, 4, .inl a_crewDay)) :: (q 42, .inl (E.2.1 0, 7, .inl a_dFrom)) :: (q 43, .inl (E.2.1 0, 7, .inl a_dTo)) :: (q 44, .inl (E.2.1 0, 7, .inl a_dDays)) :: (q 45, .inl (E.2.1 0, 7, .inl a_dFirst)) :: (q 56, .inl (E.2.1 0, 7, .inl a_beginsOn)) :: wr) H → va_D A ((h0, .inr (12, mG q i_taped i_size i_sort i_what i_at i_end i_worth i_faultKind i_faultPlace i_got i_worked (nI dl) i_isPlanned i_bestDone i_bestCost)) :: (q 54, .inl (E.2.1 0, 7, .inl a_bestGiven)) :: (q 52, .inl (E.2.1 0, 512, .inl a_order)) :: (q 47, .inl (E.2.1 0, 4, .inl a_crewPort)) :: (q 48, .inl (E.2.1 0, 4, .inl a_crewDay)) :: (q 42, .inl (E.2.1 0, 7, .inl a_dFrom)) :: (q 43, .inl (E.2.1 0, 7, .inl a_dTo)) :: (q 44, .inl (E.2.1 0, 7, .inl a_dDays)) :: (q 45, .inl (E.2.1 0, 7, .inl a_dFirst)) :: (q 56, .inl (E.2.1 0, 7, .inl a_beginsOn)) :: wr) → va_S A s.heap H locs → lv_has ls 2 [(0, .ref h0)] → W p l e ({ frames := 8, cells := 0, slots := 0, locals := 240 }) s m args below meth c H locs 0 0 Q (F0 m 151 ls [])) : ∀ (n0 : Nat) (k : Nat) (a_beginsOn : Nat → Int32) (H : Heap) (locs : List Loc) (ls : Array Slot), 4 - k < n0 → (k ≤ 4) → va_P E.1 vwCl ((h0, .inr (12, mG q i_taped i_size i_sort i_what i_at i_end i_worth i_faultKind i_faultPlace i_got i_worked (nI dl) i_isPlanned i_bestDone i_bestCost)) :: (q 54, .inl (E.2.1 0, 7, .inl a_bestGiven)) :: (q 52, .inl (E.2.1 0, 512, .inl a_order)) :: (q 47, .inl (E.2.1 0, 4, .inl a_crewPort)) :: (q 48, .inl (E.2.1 0, 4, .inl a_crewDay)) :: (q 42, .inl (E.2.1 0, 7, .inl a_dFrom)) :: (q 43, .inl (E.2.1 0, 7, .inl a_dTo)) :: (q 44, .inl (E.2.1 0, 7, .inl a_dDays)) :: (q 45, .inl (E.2.1 0, 7, .inl a_dFirst)) :: (q 56, .inl (E.2.1 0, 7, .inl a_beginsOn)) :: wr) H → va_D A ((h0, .inr (12, mG q i_taped i_size i_sort i_what i_at i_end i_worth i_faultKind i_faultPlace i_got i_worked (nI dl) i_isPlanned i_bestDone i_bestCost)) :: (q 54, .inl (E.2.1 0, 7, .inl a_bestGiven)) :: (q 52, .inl (E.2.1 0, 512, .inl a_order)) :: (q 47, .inl (E.2.1 0, 4, .inl a_crewPort)) :: (q 48, .inl (E.2.1 0, 4, .inl a_crewDay)) :: (q 42, .inl (E.2.1 0, 7, .inl a_dFrom)) :: (q 43, .inl (E.2.1 0, 7, .inl a_dTo)) :: (q 44, .inl (E.2.1 0, 7, .inl a_dDays)) :: (q 45, .inl (E.2.1 0, 7, .inl a_dFirst)) :: (q 56, .inl (E.2.1 0, 7, .inl a_beginsOn)) :: wr) → va_S A s.heap H locs → lv_has ls 2 [(0, .ref h0), (1, .int (nI k))] → W p l e ({ frames := 8, cells := 0, slots := 0, locals := 240 }) s m args below meth c H locs 0 0 Q (F0 m 135 ls []) := by
  have hK := hkn.1
  have hAO := hkn.2.2.1
  have fl121 := hts (.fieldLink RX12 121 "BoatsHomeModel" "crewPort" "[I") (by first | exact List.mem_of_getElem? (i := 4) rfl | decide +kernel)
  have fl124 := hts (.fieldLink RX12 124 "BoatsHomeModel" "crewDay" "[I") (by first | exact List.mem_of_getElem? (i := 5) rfl | decide +kernel)
  have fl130 := hts (.fieldLink RX12 130 "BoatsHomeModel" "least" "[I") (by first | exact List.mem_of_getElem? (i := 1) rfl | decide +kernel)
  have fl133 := hts (.fieldLink RX12 133 "BoatsHomeModel" "order" "[I") (by first | exact List.mem_of_getElem? (i := 2) rfl | decide +kernel)
  have fl142 := hts (.fieldLink RX12 142 "BoatsHomeModel" "sets" "[I") (by first | exact List.mem_of_getElem? (i := 3) rfl | decide +kernel)
  have fl145 := hts (.fieldLink RX12 145 "BoatsHomeModel" "beginsOn" "[I") (by first | exact List.mem_of_getElem? (i := 9) rfl | decide +kernel)
  have fl289 := hts (.fieldLink RX12 289 "BoatsHomeModel" "deliveries" "I") (by first | exact List.mem_of_getElem? (i := 8) rfl | decide +kernel)
  have fl292 := hts (.fieldLink RX12 292 "BoatsHomeModel" "isPlanned" "Z") (by first | exact List.mem_of_getElem? (i := 10) rfl | decide +kernel)
  have fl300 := hts (.fieldLink RX12 300 "BoatsHomeModel" "bestDone" "I") (by first | exact List.mem_of_getElem? (i := 6) rfl | decide +kernel)
  have fl303 := hts (.fieldLink RX12 303 "BoatsHomeModel" "bestCost" "I") (by first | exact List.mem_of_getElem? (i := 7) rfl | decide +kernel)
  have inX12 : ∀ w ∈ u_ws RX12 TX12 59, w ∈ wsX12_plan := by first | exact fun w h9 => (List.mem_cons_of_mem _ (List.mem_append_right _ h9)) | decide +kernel
  intro n0
  induction n0 with
  | zero =>
    intro k a_beginsOn H locs ls hn0
    exact absurd hn0 (Nat.not_lt_zero _)
  | succ n0 ih =>
    intro k a_beginsOn H locs ls hn0 hk hP hD hS hl
    refine lv_iload_n hx hb dX12_plan_135 rfl (lv_at hl 1 rfl) ?_
    refine lv_iconst (v := 4) hx hb dX12_plan_136 (by decide) ?_
    refine lv_icmp_ge (tgt := 151) hx hb dX12_plan_137 (by decide) (fun c_1 => ?_) (fun c_1 => ?_)
    · exact kk a_beginsOn _ _ _  hP hD hS (lv_sub hl [0] rfl)
    · have hlt : k < 4 := lt_of_nle (a := 4) (by omega) c_1
      refine lv_aload_n hx hb dX12_plan_140 rfl (lv_at hl 0 rfl) ?_
      refine lv_iload_n hx hb dX12_plan_141 rfl (lv_at hl 1 rfl) ?_
      have hPc := hP.sub (ws' := [(h0, .inr (12, mG q i_taped i_size i_sort i_what i_at i_end i_worth i_faultKind i_faultPlace i_got i_worked (nI dl) i_isPlanned i_bestDone i_bestCost)), (q 54, .inl (E.2.1 0, 7, .inl a_bestGiven)), (q 52, .inl (E.2.1 0, 512, .inl a_order)), (q 47, .inl (E.2.1 0, 4, .inl a_crewPort)), (q 48, .inl (E.2.1 0, 4, .inl a_crewDay)), (q 42, .inl (E.2.1 0, 7, .inl a_dFrom)), (q 43, .inl (E.2.1 0, 7, .inl a_dTo)), (q 44, .inl (E.2.1 0, 7, .inl a_dDays)), (q 45, .inl (E.2.1 0, 7, .inl a_dFirst)), (q 56, .inl (E.2.1 0, 7, .inl a_beginsOn))]) [0, 1, 2, 3, 4, 5, 6, 7, 8, 9] rfl
      have hDc := hD.sub (ws' := [(h0, .inr (12, mG q i_taped i_size i_sort i_what i_at i_end i_worth i_faultKind i_faultPlace i_got i_worked (nI dl) i_isPlanned i_bestDone i_bestCost)), (q 54, .inl (E.2.1 0, 7, .inl a_bestGiven)), (q 52, .inl (E.2.1 0, 512, .inl a_order)), (q 47, .inl (E.2.1 0, 4, .inl a_crewPort)), (q 48, .inl (E.2.1 0, 4, .inl a_crewDay)), (q 42, .inl (E.2.1 0, 7, .inl a_dFrom)), (q 43, .inl (E.2.1 0, 7, .inl a_dTo)), (q 44, .inl (E.2.1 0, 7, .inl a_dDays)), (q 45, .inl (E.2.1 0, 7, .inl a_dFirst)), (q 56, .inl (E.2.1 0, 7, .inl a_beginsOn))]) [0, 1, 2, 3, 4, 5, 6, 7, 8, 9] (by decide) rfl
      have hFc := va_free (wc := [(h0, .inr (12, mG q i_taped i_size i_sort i_what i_at i_end i_worth i_faultKind i_faultPlace i_got i_worked (nI dl) i_isPlanned i_bestDone i_bestCost)), (q 54, .inl (E.2.1 0, 7, .inl a_bestGiven)), (q 52, .inl (E.2.1 0, 512, .inl a_order)), (q 47, .inl (E.2.1 0, 4, .inl a_crewPort)), (q 48, .inl (E.2.1 0, 4, .inl a_crewDay)), (q 42, .inl (E.2.1 0, 7, .inl a_dFrom)), (q 43, .inl (E.2.1 0, 7, .inl a_dTo)), (q 44, .inl (E.2.1 0, 7, .inl a_dDays)), (q 45, .inl (E.2.1 0, 7, .inl a_dFirst)), (q 56, .inl (E.2.1 0, 7, .inl a_beginsOn))]) hD hS hA [0, 1, 2, 3, 4, 5, 6, 7, 8, 9] rfl
      refine va_callv (va_runV (As := [.int (nI k)]) (rest := []) ⟨hx, hb, hml, hown, hts⟩ (c_X12_goes l E h0 q i_taped i_size i_sort i_what i_at i_end i_worth i_faultKind i_faultPlace i_got i_worked i_isPlanned i_bestDone i_bestCost dl k a_bestGiven a_order a_crewPort a_crewDay a_dFrom a_dTo a_dDays a_dFirst a_beginsOn H.size (by omega) (by omega) hI_order hI_crewPort hI_dFrom hI_dTo) (cwV 1 hts gX12_plan_X12_goes rfl rfl rfl hdV_X12_goes ⟨Nat.le_of_ble_eq_true rfl, Nat.le_of_ble_eq_true rfl⟩) ⟨pcW_blind, va_recv hK hPc (ci := 12) (q0 := 0) rfl rfl, (pcW_pre hPc hkn hDc hst hS hFc)⟩ rfl rfl hl.1 rfl (lv_room (Nat.le_of_ble_eq_true rfl)) dX12_plan_142 ⟨Nat.le_of_ble_eq_true rfl, Nat.le_of_ble_eq_true rfl⟩) hS (fun q _ h => hFc q h) hFc (fun u t H1 locs ht hvm hw_3 hB hz1 hk1 hS => ?_)
      obtain ⟨u_4, rfl⟩ : ∃ z, z = u := ⟨_, rfl⟩
      obtain ⟨hP1, hD1⟩ := hB
      rw [ht] at hP1
      try dsimp only at hw_3
      obtain ⟨hP, hD⟩ := va_joinQ (X := [(h0, .inr (12, mG q i_taped i_size i_sort i_what i_at i_end i_worth i_faultKind i_faultPlace i_got i_worked (nI dl) i_isPlanned i_bestDone i_bestCost)), (q 54, .inl (E.2.1 0, 7, .inl a_bestGiven)), (q 52, .inl (E.2.1 0, 512, .inl a_order)), (q 47, .inl (E.2.1 0, 4, .inl a_crewPort)), (q 48, .inl (E.2.1 0, 4, .inl a_crewDay)), (q 42, .inl (E.2.1 0, 7, .inl a_dFrom)), (q 43, .inl (E.2.1 0, 7, .inl a_dTo)), (q 44, .inl (E.2.1 0, 7, .inl a_dDays)), (q 45, .inl (E.2.1 0, 7, .inl a_dFirst)), (q 56, .inl (E.2.1 0, 7, .inl a_beginsOn))]) (cx := [(h0, .inr (12, mG q i_taped i_size i_sort i_what i_at i_end i_worth i_faultKind i_faultPlace i_got i_worked (nI dl) i_isPlanned i_bestDone i_bestCost)), (q 54, .inl (E.2.1 0, 7, .inl a_bestGiven)), (q 52, .inl (E.2.1 0, 512, .inl a_order)), (q 47, .inl (E.2.1 0, 4, .inl a_crewPort)), (q 48, .inl (E.2.1 0, 4, .inl a_crewDay)), (q 42, .inl (E.2.1 0, 7, .inl a_dFrom)), (q 43, .inl (E.2.1 0, 7, .inl a_dTo)), (q 44, .inl (E.2.1 0, 7, .inl a_dDays)), (q 45, .inl (E.2.1 0, 7, .inl a_dFirst)), (q 56, .inl (E.2.1 0, 7, .inl a_beginsOn))]) (pl := wr) (wr := []) (w1 := [(h0, .inr (12, mG q i_taped i_size i_sort i_what i_at i_end i_worth i_faultKind i_faultPlace i_got i_worked (nI dl) i_isPlanned i_bestDone i_bestCost)), (q 54, .inl (E.2.1 0, 7, .inl a_bestGiven)), (q 52, .inl (E.2.1 0, 512, .inl a_order)), (q 47, .inl (E.2.1 0, 4, .inl a_crewPort)), (q 48, .inl (E.2.1 0, 4, .inl a_crewDay)), (q 42, .inl (E.2.1 0, 7, .inl a_dFrom)), (q 43, .inl (E.2.1 0, 7, .inl a_dTo)), (q 44, .inl (E.2.1 0, 7, .inl a_dDays)), (q 45, .inl (E.2.1 0, 7, .inl a_dFirst)), (q 56, .inl (E.2.1 0, 7, .inl u_4))]) hP hD [0, 1, 2, 3, 4, 5, 6, 7, 8, 9] [] rfl rfl (by decide) (by decide) hk1 hFc hP1 hD1
      generalize H1 = H at hP hS ⊢
      have hP : va_P E.1 vwCl ((h0, .inr (12, mG q i_taped i_size i_sort i_what i_at i_end i_worth i_faultKind i_faultPlace i_got i_worked (nI dl) i_isPlanned i_bestDone i_bestCost)) :: (q 54, .inl (E.2.1 0, 7, .inl a_bestGiven)) :: (q 52, .inl (E.2.1 0, 512, .inl a_order)) :: (q 47, .inl (E.2.1 0, 4, .inl a_crewPort)) :: (q 48, .inl (E.2.1 0, 4, .inl a_crewDay)) :: (q 42, .inl (E.2.1 0, 7, .inl a_dFrom)) :: (q 43, .inl (E.2.1 0, 7, .inl a_dTo)) :: (q 44, .inl (E.2.1 0, 7, .inl a_dDays)) :: (q 45, .inl (E.2.1 0, 7, .inl a_dFirst)) :: (q 56, .inl (E.2.1 0, 7, .inl u_4)) :: wr) H := hP
      have hD : va_D A ((h0, .inr (12, mG q i_taped i_size i_sort i_what i_at i_end i_worth i_faultKind i_faultPlace i_got i_worked (nI dl) i_isPlanned i_bestDone i_bestCost)) :: (q 54, .inl (E.2.1 0, 7, .inl a_bestGiven)) :: (q 52, .inl (E.2.1 0, 512, .inl a_order)) :: (q 47, .inl (E.2.1 0, 4, .inl a_crewPort)) :: (q 48, .inl (E.2.1 0, 4, .inl a_crewDay)) :: (q 42, .inl (E.2.1 0, 7, .inl a_dFrom)) :: (q 43, .inl (E.2.1 0, 7, .inl a_dTo)) :: (q 44, .inl (E.2.1 0, 7, .inl a_dDays)) :: (q 45, .inl (E.2.1 0, 7, .inl a_dFirst)) :: (q 56, .inl (E.2.1 0, 7, .inl u_4)) :: wr) := hD
      refine lv_iinc (v := (nI (k + 1))) (lv' := [(1, .int (nI (k + 1))), (0, .ref h0)]) hx hb dX12_plan_145 hl (k := 1) rfl (show nI k + 1 = nI (k + 1) from nI_1 k) (by decide) rfl (fun ls hl => ?_)
      refine lv_goto (tgt := 135) hx hb dX12_plan_148 (by decide) ?_
      exact ih (k + 1) u_4 _ _ _ (by omega) (by omega) hP hD hS (lv_sub hl [1, 0] rfl)
set_option maxHeartbeats 4000000 in
set_option maxRecDepth 100000 in
theorem c_X12_plan (l : Launch) (E : vE) (h0 : Nat) (q : Nat → Nat) (i_taped : Int32) (i_size : Int32) (i_sort : Int32) (i_what : Int32) (i_at : Int32) (i_end : Int32) (i_worth : Int32) (i_faultKind : Int32) (i_faultPlace : Int32) (i_got : Int32) (i_worked : Int32) (i_isPlanned : Int32) (i_bestDone : Int32) (i_bestCost : Int32) (dl : Nat) (a_least : Nat → Int32) (a_order : Nat → Int32) (a_sets : Nat → Int32) (a_crewPort : Nat → Int32) (a_crewDay : Nat → Int32) (a_given : Nat → Int32) (a_bestGiven : Nat → Int32) (a_beginsOn : Nat → Int32) (a_flights : Nat → Int32) (a_dFrom : Nat → Int32) (a_dTo : Nat → Int32) (a_dDays : Nat → Int32) (a_dFirst : Nat → Int32) (a_dLast : Nat → Int32) (sz : Nat) (hdl : dl ≤ 7) (hI_order : ∀ k : Nat, k < 512 → digOK (a_order k)) (hI_sets : ∀ k : Nat, k < 4 → inR (a_sets k) 0 127 = true) (hI_crewPort : ∀ k : Nat, k < 4 → inR (a_crewPort k) (-1) 9 = true) (hI_dFrom : ∀ k : Nat, k < 7 → inR (a_dFrom k) 0 9 = true) (hI_dTo : ∀ k : Nat, k < 7 → inR (a_dTo k) 0 9 = true) : Met l yX12_plan wsX12_plan ({ frames := 8, cells := 0, slots := 0, locals := 240 }) (pcW E [.ref h0] sz [(h0, .inr (12, mG q i_taped i_size i_sort i_what i_at i_end i_worth i_faultKind i_faultPlace i_got i_worked (nI dl) i_isPlanned i_bestDone i_bestCost)), (q 51, .inl (E.2.1 0, 512, .inl a_least)), (q 52, .inl (E.2.1 0, 512, .inl a_order)), (q 55, .inl (E.2.1 0, 4, .inl a_sets)), (q 47, .inl (E.2.1 0, 4, .inl a_crewPort)), (q 48, .inl (E.2.1 0, 4, .inl a_crewDay)), (q 53, .inl (E.2.1 0, 7, .inl a_given)), (q 54, .inl (E.2.1 0, 7, .inl a_bestGiven)), (q 56, .inl (E.2.1 0, 7, .inl a_beginsOn)), (q 49, .inl (E.2.1 0, 100, .inl a_flights)), (q 42, .inl (E.2.1 0, 7, .inl a_dFrom)), (q 43, .inl (E.2.1 0, 7, .inl a_dTo)), (q 44, .inl (E.2.1 0, 7, .inl a_dDays)), (q 45, .inl (E.2.1 0, 7, .inl a_dFirst)), (q 46, .inl (E.2.1 0, 7, .inl a_dLast))]) (va_Qi (fun (r : Int32) (u : Int32 × Int32 × (Nat → Int32) × (Nat → Int32) × (Nat → Int32) × (Nat → Int32) × (Nat → Int32) × (Nat → Int32)) => match u with | (bd2, bc2, b_least, b_order, b_sets, b_given, b_bestGiven, b_beginsOn) => True) (fun (u : Int32 × Int32 × (Nat → Int32) × (Nat → Int32) × (Nat → Int32) × (Nat → Int32) × (Nat → Int32) × (Nat → Int32)) (t : State) => match u with | (bd2, bc2, b_least, b_order, b_sets, b_given, b_bestGiven, b_beginsOn) => (∀ k : Nat, k < 512 → digOK (b_order k)) ∧ (∀ k : Nat, k < 4 → inR (b_sets k) 0 127 = true) ∧ wB E (va_A [(h0, .inr (12, mG q i_taped i_size i_sort i_what i_at i_end i_worth i_faultKind i_faultPlace i_got i_worked (nI dl) i_isPlanned i_bestDone i_bestCost)), (q 51, .inl (E.2.1 0, 512, .inl a_least)), (q 52, .inl (E.2.1 0, 512, .inl a_order)), (q 55, .inl (E.2.1 0, 4, .inl a_sets)), (q 47, .inl (E.2.1 0, 4, .inl a_crewPort)), (q 48, .inl (E.2.1 0, 4, .inl a_crewDay)), (q 53, .inl (E.2.1 0, 7, .inl a_given)), (q 54, .inl (E.2.1 0, 7, .inl a_bestGiven)), (q 56, .inl (E.2.1 0, 7, .inl a_beginsOn)), (q 49, .inl (E.2.1 0, 100, .inl a_flights)), (q 42, .inl (E.2.1 0, 7, .inl a_dFrom)), (q 43, .inl (E.2.1 0, 7, .inl a_dTo)), (q 44, .inl (E.2.1 0, 7, .inl a_dDays)), (q 45, .inl (E.2.1 0, 7, .inl a_dFirst)), (q 46, .inl (E.2.1 0, 7, .inl a_dLast))] sz) [(h0, .inr (12, mG q i_taped i_size i_sort i_what i_at i_end i_worth i_faultKind i_faultPlace i_got i_worked (nI dl) 1 bd2 bc2)), (q 51, .inl (E.2.1 0, 512, .inl b_least)), (q 52, .inl (E.2.1 0, 512, .inl b_order)), (q 55, .inl (E.2.1 0, 4, .inl b_sets)), (q 47, .inl (E.2.1 0, 4, .inl a_crewPort)), (q 48, .inl (E.2.1 0, 4, .inl a_crewDay)), (q 53, .inl (E.2.1 0, 7, .inl b_given)), (q 54, .inl (E.2.1 0, 7, .inl b_bestGiven)), (q 56, .inl (E.2.1 0, 7, .inl b_beginsOn)), (q 49, .inl (E.2.1 0, 100, .inl a_flights)), (q 42, .inl (E.2.1 0, 7, .inl a_dFrom)), (q 43, .inl (E.2.1 0, 7, .inl a_dTo)), (q 44, .inl (E.2.1 0, 7, .inl a_dDays)), (q 45, .inl (E.2.1 0, 7, .inl a_dFirst)), (q 46, .inl (E.2.1 0, 7, .inl a_dLast))] t) (va_A [(h0, .inr (12, mG q i_taped i_size i_sort i_what i_at i_end i_worth i_faultKind i_faultPlace i_got i_worked (nI dl) i_isPlanned i_bestDone i_bestCost)), (q 51, .inl (E.2.1 0, 512, .inl a_least)), (q 52, .inl (E.2.1 0, 512, .inl a_order)), (q 55, .inl (E.2.1 0, 4, .inl a_sets)), (q 47, .inl (E.2.1 0, 4, .inl a_crewPort)), (q 48, .inl (E.2.1 0, 4, .inl a_crewDay)), (q 53, .inl (E.2.1 0, 7, .inl a_given)), (q 54, .inl (E.2.1 0, 7, .inl a_bestGiven)), (q 56, .inl (E.2.1 0, 7, .inl a_beginsOn)), (q 49, .inl (E.2.1 0, 100, .inl a_flights)), (q 42, .inl (E.2.1 0, 7, .inl a_dFrom)), (q 43, .inl (E.2.1 0, 7, .inl a_dTo)), (q 44, .inl (E.2.1 0, 7, .inl a_dDays)), (q 45, .inl (E.2.1 0, 7, .inl a_dFirst)), (q 46, .inl (E.2.1 0, 7, .inl a_dLast))] sz)) 0 0 (va_A [(h0, .inr (12, mG q i_taped i_size i_sort i_what i_at i_end i_worth i_faultKind i_faultPlace i_got i_worked (nI dl) i_isPlanned i_bestDone i_bestCost)), (q 51, .inl (E.2.1 0, 512, .inl a_least)), (q 52, .inl (E.2.1 0, 512, .inl a_order)), (q 55, .inl (E.2.1 0, 4, .inl a_sets)), (q 47, .inl (E.2.1 0, 4, .inl a_crewPort)), (q 48, .inl (E.2.1 0, 4, .inl a_crewDay)), (q 53, .inl (E.2.1 0, 7, .inl a_given)), (q 54, .inl (E.2.1 0, 7, .inl a_bestGiven)), (q 56, .inl (E.2.1 0, 7, .inl a_beginsOn)), (q 49, .inl (E.2.1 0, 100, .inl a_flights)), (q 42, .inl (E.2.1 0, 7, .inl a_dFrom)), (q 43, .inl (E.2.1 0, 7, .inl a_dTo)), (q 44, .inl (E.2.1 0, 7, .inl a_dDays)), (q 45, .inl (E.2.1 0, 7, .inl a_dFirst)), (q 46, .inl (E.2.1 0, 7, .inl a_dLast))] sz) := by
  refine Met.ofW (cc := cX12_plan) (maxL := 2) (ret := (some .int)) (by decide) rfl ?_
  intro p e s m args below meth c s₁ B hml hv
  obtain ⟨rfl, hsz, hP, hkn, hD0, hst⟩ := hv
  have hx := B.exec
  have hb := B.bytes
  have hr := B.returns
  have hts := atoms_spec (ws := wsX12_plan) B.pre
  have hown : s.vm.findClass RX12 = some m.cls := findClass_of_methodNamed B.named
  have hlocks := B.notSynchronized
  subst hsz
  have hD := hD0.self (sz := s.heap.size)
  have hK := hkn.1
  have hAO := hkn.2.2.1
  generalize hAe : va_A [(h0, .inr (12, mG q i_taped i_size i_sort i_what i_at i_end i_worth i_faultKind i_faultPlace i_got i_worked (nI dl) i_isPlanned i_bestDone i_bestCost)), (q 51, .inl (E.2.1 0, 512, .inl a_least)), (q 52, .inl (E.2.1 0, 512, .inl a_order)), (q 55, .inl (E.2.1 0, 4, .inl a_sets)), (q 47, .inl (E.2.1 0, 4, .inl a_crewPort)), (q 48, .inl (E.2.1 0, 4, .inl a_crewDay)), (q 53, .inl (E.2.1 0, 7, .inl a_given)), (q 54, .inl (E.2.1 0, 7, .inl a_bestGiven)), (q 56, .inl (E.2.1 0, 7, .inl a_beginsOn)), (q 49, .inl (E.2.1 0, 100, .inl a_flights)), (q 42, .inl (E.2.1 0, 7, .inl a_dFrom)), (q 43, .inl (E.2.1 0, 7, .inl a_dTo)), (q 44, .inl (E.2.1 0, 7, .inl a_dDays)), (q 45, .inl (E.2.1 0, 7, .inl a_dFirst)), (q 46, .inl (E.2.1 0, 7, .inl a_dLast))] s.heap.size = A at hD hst ⊢
  have hA : ∀ q : Nat, s.heap.size ≤ q → A q := fun q h => by rw [← hAe]; exact Or.inr h
  have hS : va_S A s.heap s.heap [] := va_S.rf
  have hP : va_P E.1 vwCl [(h0, .inr (12, mG q i_taped i_size i_sort i_what i_at i_end i_worth i_faultKind i_faultPlace i_got i_worked (nI dl) i_isPlanned i_bestDone i_bestCost)), (q 51, .inl (E.2.1 0, 512, .inl a_least)), (q 52, .inl (E.2.1 0, 512, .inl a_order)), (q 55, .inl (E.2.1 0, 4, .inl a_sets)), (q 47, .inl (E.2.1 0, 4, .inl a_crewPort)), (q 48, .inl (E.2.1 0, 4, .inl a_crewDay)), (q 53, .inl (E.2.1 0, 7, .inl a_given)), (q 54, .inl (E.2.1 0, 7, .inl a_bestGiven)), (q 56, .inl (E.2.1 0, 7, .inl a_beginsOn)), (q 49, .inl (E.2.1 0, 100, .inl a_flights)), (q 42, .inl (E.2.1 0, 7, .inl a_dFrom)), (q 43, .inl (E.2.1 0, 7, .inl a_dTo)), (q 44, .inl (E.2.1 0, 7, .inl a_dDays)), (q 45, .inl (E.2.1 0, 7, .inl a_dFirst)), (q 46, .inl (E.2.1 0, 7, .inl a_dLast))] s.heap := hP
  have hl := lv_entry ([.ref h0]) (n := 2) (Nat.le_of_ble_eq_true rfl)
  rw [lg_entry_eq]
  generalize (lg_sl ([.ref h0]) ++ List.replicate (2 - (lg_sl ([.ref h0])).length) Slot.unset).toArray = ls at hl ⊢
  have hl : lv_has ls 2 [(0, .ref h0)] := hl
  have fl121 := hts (.fieldLink RX12 121 "BoatsHomeModel" "crewPort" "[I") (by first | exact List.mem_of_getElem? (i := 4) rfl | decide +kernel)
  have fl124 := hts (.fieldLink RX12 124 "BoatsHomeModel" "crewDay" "[I") (by first | exact List.mem_of_getElem? (i := 5) rfl | decide +kernel)
  have fl130 := hts (.fieldLink RX12 130 "BoatsHomeModel" "least" "[I") (by first | exact List.mem_of_getElem? (i := 1) rfl | decide +kernel)
  have fl133 := hts (.fieldLink RX12 133 "BoatsHomeModel" "order" "[I") (by first | exact List.mem_of_getElem? (i := 2) rfl | decide +kernel)
  have fl142 := hts (.fieldLink RX12 142 "BoatsHomeModel" "sets" "[I") (by first | exact List.mem_of_getElem? (i := 3) rfl | decide +kernel)
  have fl145 := hts (.fieldLink RX12 145 "BoatsHomeModel" "beginsOn" "[I") (by first | exact List.mem_of_getElem? (i := 9) rfl | decide +kernel)
  have fl289 := hts (.fieldLink RX12 289 "BoatsHomeModel" "deliveries" "I") (by first | exact List.mem_of_getElem? (i := 8) rfl | decide +kernel)
  have fl292 := hts (.fieldLink RX12 292 "BoatsHomeModel" "isPlanned" "Z") (by first | exact List.mem_of_getElem? (i := 10) rfl | decide +kernel)
  have fl300 := hts (.fieldLink RX12 300 "BoatsHomeModel" "bestDone" "I") (by first | exact List.mem_of_getElem? (i := 6) rfl | decide +kernel)
  have fl303 := hts (.fieldLink RX12 303 "BoatsHomeModel" "bestCost" "I") (by first | exact List.mem_of_getElem? (i := 7) rfl | decide +kernel)
  have inX12 : ∀ w ∈ u_ws RX12 TX12 59, w ∈ wsX12_plan := by first | exact fun w h9 => (List.mem_cons_of_mem _ (List.mem_append_right _ h9)) | decide +kernel
  refine lv_iconst (v := 0) hx hb dX12_plan_0 (by decide) ?_
  refine lv_istore_n (lv' := [(1, .int 0), (0, .ref h0)]) hx hb dX12_plan_1 rfl hl (by decide) rfl (fun ls hl => ?_)
  have hPl := hP.sub (ws' := [(h0, .inr (12, mG q i_taped i_size i_sort i_what i_at i_end i_worth i_faultKind i_faultPlace i_got i_worked (nI dl) i_isPlanned i_bestDone i_bestCost)), (q 51, .inl (E.2.1 0, 512, .inl a_least)), (q 52, .inl (E.2.1 0, 512, .inl a_order)), (q 55, .inl (E.2.1 0, 4, .inl a_sets)), (q 47, .inl (E.2.1 0, 4, .inl a_crewPort)), (q 48, .inl (E.2.1 0, 4, .inl a_crewDay)), (q 53, .inl (E.2.1 0, 7, .inl a_given)), (q 54, .inl (E.2.1 0, 7, .inl a_bestGiven)), (q 56, .inl (E.2.1 0, 7, .inl a_beginsOn)), (q 49, .inl (E.2.1 0, 100, .inl a_flights)), (q 42, .inl (E.2.1 0, 7, .inl a_dFrom)), (q 43, .inl (E.2.1 0, 7, .inl a_dTo)), (q 44, .inl (E.2.1 0, 7, .inl a_dDays)), (q 45, .inl (E.2.1 0, 7, .inl a_dFirst)), (q 46, .inl (E.2.1 0, 7, .inl a_dLast))]) [0, 1, 2, 3, 4, 5, 6, 7, 8, 9, 10, 11, 12, 13, 14] rfl
  have hDl := hD.sub (ws' := [(h0, .inr (12, mG q i_taped i_size i_sort i_what i_at i_end i_worth i_faultKind i_faultPlace i_got i_worked (nI dl) i_isPlanned i_bestDone i_bestCost)), (q 51, .inl (E.2.1 0, 512, .inl a_least)), (q 52, .inl (E.2.1 0, 512, .inl a_order)), (q 55, .inl (E.2.1 0, 4, .inl a_sets)), (q 47, .inl (E.2.1 0, 4, .inl a_crewPort)), (q 48, .inl (E.2.1 0, 4, .inl a_crewDay)), (q 53, .inl (E.2.1 0, 7, .inl a_given)), (q 54, .inl (E.2.1 0, 7, .inl a_bestGiven)), (q 56, .inl (E.2.1 0, 7, .inl a_beginsOn)), (q 49, .inl (E.2.1 0, 100, .inl a_flights)), (q 42, .inl (E.2.1 0, 7, .inl a_dFrom)), (q 43, .inl (E.2.1 0, 7, .inl a_dTo)), (q 44, .inl (E.2.1 0, 7, .inl a_dDays)), (q 45, .inl (E.2.1 0, 7, .inl a_dFirst)), (q 46, .inl (E.2.1 0, 7, .inl a_dLast))]) [0, 1, 2, 3, 4, 5, 6, 7, 8, 9, 10, 11, 12, 13, 14] (by decide) rfl
  refine lm_plan1 E h0 q i_taped i_size i_sort i_what i_at i_end i_worth i_faultKind i_faultPlace i_got i_worked i_isPlanned i_bestDone i_bestCost dl ([(q 52, .inl (E.2.1 0, 512, .inl a_order)), (q 55, .inl (E.2.1 0, 4, .inl a_sets)), (q 47, .inl (E.2.1 0, 4, .inl a_crewPort)), (q 48, .inl (E.2.1 0, 4, .inl a_crewDay)), (q 53, .inl (E.2.1 0, 7, .inl a_given)), (q 54, .inl (E.2.1 0, 7, .inl a_bestGiven)), (q 56, .inl (E.2.1 0, 7, .inl a_beginsOn)), (q 49, .inl (E.2.1 0, 100, .inl a_flights)), (q 42, .inl (E.2.1 0, 7, .inl a_dFrom)), (q 43, .inl (E.2.1 0, 7, .inl a_dTo)), (q 44, .inl (E.2.1 0, 7, .inl a_dDays)), (q 45, .inl (E.2.1 0, 7, .inl a_dFirst)), (q 46, .inl (E.2.1 0, 7, .inl a_dLast))]) hx hb hml hown hts hkn hst hA  (fun n_1 H locs ls  hP hD hS hl => ?_) 513 0 a_least _ _ _ (by omega) (by omega) hPl hDl hS (lv_sub hl [1, 0] rfl)
  have hP : va_P E.1 vwCl [(h0, .inr (12, mG q i_taped i_size i_sort i_what i_at i_end i_worth i_faultKind i_faultPlace i_got i_worked (nI dl) i_isPlanned i_bestDone i_bestCost)), (q 51, .inl (E.2.1 0, 512, .inl n_1)), (q 52, .inl (E.2.1 0, 512, .inl a_order)), (q 55, .inl (E.2.1 0, 4, .inl a_sets)), (q 47, .inl (E.2.1 0, 4, .inl a_crewPort)), (q 48, .inl (E.2.1 0, 4, .inl a_crewDay)), (q 53, .inl (E.2.1 0, 7, .inl a_given)), (q 54, .inl (E.2.1 0, 7, .inl a_bestGiven)), (q 56, .inl (E.2.1 0, 7, .inl a_beginsOn)), (q 49, .inl (E.2.1 0, 100, .inl a_flights)), (q 42, .inl (E.2.1 0, 7, .inl a_dFrom)), (q 43, .inl (E.2.1 0, 7, .inl a_dTo)), (q 44, .inl (E.2.1 0, 7, .inl a_dDays)), (q 45, .inl (E.2.1 0, 7, .inl a_dFirst)), (q 46, .inl (E.2.1 0, 7, .inl a_dLast))] H := hP
  have hD : va_D A [(h0, .inr (12, mG q i_taped i_size i_sort i_what i_at i_end i_worth i_faultKind i_faultPlace i_got i_worked (nI dl) i_isPlanned i_bestDone i_bestCost)), (q 51, .inl (E.2.1 0, 512, .inl n_1)), (q 52, .inl (E.2.1 0, 512, .inl a_order)), (q 55, .inl (E.2.1 0, 4, .inl a_sets)), (q 47, .inl (E.2.1 0, 4, .inl a_crewPort)), (q 48, .inl (E.2.1 0, 4, .inl a_crewDay)), (q 53, .inl (E.2.1 0, 7, .inl a_given)), (q 54, .inl (E.2.1 0, 7, .inl a_bestGiven)), (q 56, .inl (E.2.1 0, 7, .inl a_beginsOn)), (q 49, .inl (E.2.1 0, 100, .inl a_flights)), (q 42, .inl (E.2.1 0, 7, .inl a_dFrom)), (q 43, .inl (E.2.1 0, 7, .inl a_dTo)), (q 44, .inl (E.2.1 0, 7, .inl a_dDays)), (q 45, .inl (E.2.1 0, 7, .inl a_dFirst)), (q 46, .inl (E.2.1 0, 7, .inl a_dLast))] := hD
  refine lv_iconst (v := 0) hx hb dX12_plan_34 (by decide) ?_
  refine lv_istore_n (lv' := [(1, .int 0), (0, .ref h0)]) hx hb dX12_plan_35 rfl hl (by decide) rfl (fun ls hl => ?_)
  have hPl := hP.sub (ws' := [(h0, .inr (12, mG q i_taped i_size i_sort i_what i_at i_end i_worth i_faultKind i_faultPlace i_got i_worked (nI dl) i_isPlanned i_bestDone i_bestCost)), (q 51, .inl (E.2.1 0, 512, .inl n_1)), (q 52, .inl (E.2.1 0, 512, .inl a_order)), (q 55, .inl (E.2.1 0, 4, .inl a_sets)), (q 47, .inl (E.2.1 0, 4, .inl a_crewPort)), (q 48, .inl (E.2.1 0, 4, .inl a_crewDay)), (q 53, .inl (E.2.1 0, 7, .inl a_given)), (q 54, .inl (E.2.1 0, 7, .inl a_bestGiven)), (q 56, .inl (E.2.1 0, 7, .inl a_beginsOn)), (q 49, .inl (E.2.1 0, 100, .inl a_flights)), (q 42, .inl (E.2.1 0, 7, .inl a_dFrom)), (q 43, .inl (E.2.1 0, 7, .inl a_dTo)), (q 44, .inl (E.2.1 0, 7, .inl a_dDays)), (q 45, .inl (E.2.1 0, 7, .inl a_dFirst)), (q 46, .inl (E.2.1 0, 7, .inl a_dLast))]) [0, 1, 2, 3, 4, 5, 6, 7, 8, 9, 10, 11, 12, 13, 14] rfl
  have hDl := hD.sub (ws' := [(h0, .inr (12, mG q i_taped i_size i_sort i_what i_at i_end i_worth i_faultKind i_faultPlace i_got i_worked (nI dl) i_isPlanned i_bestDone i_bestCost)), (q 51, .inl (E.2.1 0, 512, .inl n_1)), (q 52, .inl (E.2.1 0, 512, .inl a_order)), (q 55, .inl (E.2.1 0, 4, .inl a_sets)), (q 47, .inl (E.2.1 0, 4, .inl a_crewPort)), (q 48, .inl (E.2.1 0, 4, .inl a_crewDay)), (q 53, .inl (E.2.1 0, 7, .inl a_given)), (q 54, .inl (E.2.1 0, 7, .inl a_bestGiven)), (q 56, .inl (E.2.1 0, 7, .inl a_beginsOn)), (q 49, .inl (E.2.1 0, 100, .inl a_flights)), (q 42, .inl (E.2.1 0, 7, .inl a_dFrom)), (q 43, .inl (E.2.1 0, 7, .inl a_dTo)), (q 44, .inl (E.2.1 0, 7, .inl a_dDays)), (q 45, .inl (E.2.1 0, 7, .inl a_dFirst)), (q 46, .inl (E.2.1 0, 7, .inl a_dLast))]) [0, 1, 2, 3, 4, 5, 6, 7, 8, 9, 10, 11, 12, 13, 14] (by decide) rfl
  refine lm_plan2 E h0 q i_taped i_size i_sort i_what i_at i_end i_worth i_faultKind i_faultPlace i_got i_worked i_isPlanned i_bestDone i_bestCost dl a_crewPort a_crewDay a_given a_bestGiven a_beginsOn a_flights a_dFrom a_dTo a_dDays a_dFirst a_dLast hx hb hml hown hts hkn hst hA (by omega) hI_crewPort hI_dFrom hI_dTo (fun n_2 n_3 n_4 H locs ls hI_order hI_sets hP hD hS hl => ?_) 5 0 n_1 a_order a_sets _ _ _ (by omega) (by omega) hI_order hI_sets hPl hDl hS (lv_sub hl [1, 0] rfl)
  have hP : va_P E.1 vwCl [(h0, .inr (12, mG q i_taped i_size i_sort i_what i_at i_end i_worth i_faultKind i_faultPlace i_got i_worked (nI dl) i_isPlanned i_bestDone i_bestCost)), (q 51, .inl (E.2.1 0, 512, .inl n_2)), (q 52, .inl (E.2.1 0, 512, .inl n_3)), (q 55, .inl (E.2.1 0, 4, .inl n_4)), (q 47, .inl (E.2.1 0, 4, .inl a_crewPort)), (q 48, .inl (E.2.1 0, 4, .inl a_crewDay)), (q 53, .inl (E.2.1 0, 7, .inl a_given)), (q 54, .inl (E.2.1 0, 7, .inl a_bestGiven)), (q 56, .inl (E.2.1 0, 7, .inl a_beginsOn)), (q 49, .inl (E.2.1 0, 100, .inl a_flights)), (q 42, .inl (E.2.1 0, 7, .inl a_dFrom)), (q 43, .inl (E.2.1 0, 7, .inl a_dTo)), (q 44, .inl (E.2.1 0, 7, .inl a_dDays)), (q 45, .inl (E.2.1 0, 7, .inl a_dFirst)), (q 46, .inl (E.2.1 0, 7, .inl a_dLast))] H := hP
  have hD : va_D A [(h0, .inr (12, mG q i_taped i_size i_sort i_what i_at i_end i_worth i_faultKind i_faultPlace i_got i_worked (nI dl) i_isPlanned i_bestDone i_bestCost)), (q 51, .inl (E.2.1 0, 512, .inl n_2)), (q 52, .inl (E.2.1 0, 512, .inl n_3)), (q 55, .inl (E.2.1 0, 4, .inl n_4)), (q 47, .inl (E.2.1 0, 4, .inl a_crewPort)), (q 48, .inl (E.2.1 0, 4, .inl a_crewDay)), (q 53, .inl (E.2.1 0, 7, .inl a_given)), (q 54, .inl (E.2.1 0, 7, .inl a_bestGiven)), (q 56, .inl (E.2.1 0, 7, .inl a_beginsOn)), (q 49, .inl (E.2.1 0, 100, .inl a_flights)), (q 42, .inl (E.2.1 0, 7, .inl a_dFrom)), (q 43, .inl (E.2.1 0, 7, .inl a_dTo)), (q 44, .inl (E.2.1 0, 7, .inl a_dDays)), (q 45, .inl (E.2.1 0, 7, .inl a_dFirst)), (q 46, .inl (E.2.1 0, 7, .inl a_dLast))] := hD
  refine lv_aload_n hx hb dX12_plan_95 rfl (lv_at hl 0 rfl) ?_
  refine lv_iconst (v := (-1)) hx hb dX12_plan_96 (by decide) ?_
  refine va_put (D := E.1) (ci := 12) (v := .int (-1)) (ty := .int) (C := RX12) (T := TX12) (N := 59) hx hb hts inX12 tyX12 tyX12_ok nmX12 hown hK hP hD hS 0 rfl rfl 57 (by decide) fl300 (fun _ h9 => h9) rfl (by decide +kernel) rfl rfl (Nat.le_of_ble_eq_true rfl) dX12_plan_97 (fun H locs hP hD hS => ?_)
  have hP : va_P E.1 vwCl [(h0, .inr (12, mG q i_taped i_size i_sort i_what i_at i_end i_worth i_faultKind i_faultPlace i_got i_worked (nI dl) i_isPlanned (-1) i_bestCost)), (q 51, .inl (E.2.1 0, 512, .inl n_2)), (q 52, .inl (E.2.1 0, 512, .inl n_3)), (q 55, .inl (E.2.1 0, 4, .inl n_4)), (q 47, .inl (E.2.1 0, 4, .inl a_crewPort)), (q 48, .inl (E.2.1 0, 4, .inl a_crewDay)), (q 53, .inl (E.2.1 0, 7, .inl a_given)), (q 54, .inl (E.2.1 0, 7, .inl a_bestGiven)), (q 56, .inl (E.2.1 0, 7, .inl a_beginsOn)), (q 49, .inl (E.2.1 0, 100, .inl a_flights)), (q 42, .inl (E.2.1 0, 7, .inl a_dFrom)), (q 43, .inl (E.2.1 0, 7, .inl a_dTo)), (q 44, .inl (E.2.1 0, 7, .inl a_dDays)), (q 45, .inl (E.2.1 0, 7, .inl a_dFirst)), (q 46, .inl (E.2.1 0, 7, .inl a_dLast))] H := hP
  have hD : va_D A [(h0, .inr (12, mG q i_taped i_size i_sort i_what i_at i_end i_worth i_faultKind i_faultPlace i_got i_worked (nI dl) i_isPlanned (-1) i_bestCost)), (q 51, .inl (E.2.1 0, 512, .inl n_2)), (q 52, .inl (E.2.1 0, 512, .inl n_3)), (q 55, .inl (E.2.1 0, 4, .inl n_4)), (q 47, .inl (E.2.1 0, 4, .inl a_crewPort)), (q 48, .inl (E.2.1 0, 4, .inl a_crewDay)), (q 53, .inl (E.2.1 0, 7, .inl a_given)), (q 54, .inl (E.2.1 0, 7, .inl a_bestGiven)), (q 56, .inl (E.2.1 0, 7, .inl a_beginsOn)), (q 49, .inl (E.2.1 0, 100, .inl a_flights)), (q 42, .inl (E.2.1 0, 7, .inl a_dFrom)), (q 43, .inl (E.2.1 0, 7, .inl a_dTo)), (q 44, .inl (E.2.1 0, 7, .inl a_dDays)), (q 45, .inl (E.2.1 0, 7, .inl a_dFirst)), (q 46, .inl (E.2.1 0, 7, .inl a_dLast))] := hD
  refine lv_aload_n hx hb dX12_plan_100 rfl (lv_at hl 0 rfl) ?_
  refine lv_iconst (v := 0) hx hb dX12_plan_101 (by decide) ?_
  refine va_put (D := E.1) (ci := 12) (v := .int 0) (ty := .int) (C := RX12) (T := TX12) (N := 59) hx hb hts inX12 tyX12 tyX12_ok nmX12 hown hK hP hD hS 0 rfl rfl 58 (by decide) fl303 (fun _ h9 => h9) rfl (by decide +kernel) rfl rfl (Nat.le_of_ble_eq_true rfl) dX12_plan_102 (fun H locs hP hD hS => ?_)
  have hP : va_P E.1 vwCl [(h0, .inr (12, mG q i_taped i_size i_sort i_what i_at i_end i_worth i_faultKind i_faultPlace i_got i_worked (nI dl) i_isPlanned (-1) 0)), (q 51, .inl (E.2.1 0, 512, .inl n_2)), (q 52, .inl (E.2.1 0, 512, .inl n_3)), (q 55, .inl (E.2.1 0, 4, .inl n_4)), (q 47, .inl (E.2.1 0, 4, .inl a_crewPort)), (q 48, .inl (E.2.1 0, 4, .inl a_crewDay)), (q 53, .inl (E.2.1 0, 7, .inl a_given)), (q 54, .inl (E.2.1 0, 7, .inl a_bestGiven)), (q 56, .inl (E.2.1 0, 7, .inl a_beginsOn)), (q 49, .inl (E.2.1 0, 100, .inl a_flights)), (q 42, .inl (E.2.1 0, 7, .inl a_dFrom)), (q 43, .inl (E.2.1 0, 7, .inl a_dTo)), (q 44, .inl (E.2.1 0, 7, .inl a_dDays)), (q 45, .inl (E.2.1 0, 7, .inl a_dFirst)), (q 46, .inl (E.2.1 0, 7, .inl a_dLast))] H := hP
  have hD : va_D A [(h0, .inr (12, mG q i_taped i_size i_sort i_what i_at i_end i_worth i_faultKind i_faultPlace i_got i_worked (nI dl) i_isPlanned (-1) 0)), (q 51, .inl (E.2.1 0, 512, .inl n_2)), (q 52, .inl (E.2.1 0, 512, .inl n_3)), (q 55, .inl (E.2.1 0, 4, .inl n_4)), (q 47, .inl (E.2.1 0, 4, .inl a_crewPort)), (q 48, .inl (E.2.1 0, 4, .inl a_crewDay)), (q 53, .inl (E.2.1 0, 7, .inl a_given)), (q 54, .inl (E.2.1 0, 7, .inl a_bestGiven)), (q 56, .inl (E.2.1 0, 7, .inl a_beginsOn)), (q 49, .inl (E.2.1 0, 100, .inl a_flights)), (q 42, .inl (E.2.1 0, 7, .inl a_dFrom)), (q 43, .inl (E.2.1 0, 7, .inl a_dTo)), (q 44, .inl (E.2.1 0, 7, .inl a_dDays)), (q 45, .inl (E.2.1 0, 7, .inl a_dFirst)), (q 46, .inl (E.2.1 0, 7, .inl a_dLast))] := hD
  refine lv_aload_n hx hb dX12_plan_105 rfl (lv_at hl 0 rfl) ?_
  refine lv_iconst (v := 0) hx hb dX12_plan_106 (by decide) ?_
  have hPc := hP.sub (ws' := [(h0, .inr (12, mG q i_taped i_size i_sort i_what i_at i_end i_worth i_faultKind i_faultPlace i_got i_worked (nI dl) i_isPlanned (-1) 0)), (q 51, .inl (E.2.1 0, 512, .inl n_2)), (q 55, .inl (E.2.1 0, 4, .inl n_4)), (q 54, .inl (E.2.1 0, 7, .inl a_bestGiven)), (q 53, .inl (E.2.1 0, 7, .inl a_given))]) [0, 1, 3, 7, 6] rfl
  have hDc := hD.sub (ws' := [(h0, .inr (12, mG q i_taped i_size i_sort i_what i_at i_end i_worth i_faultKind i_faultPlace i_got i_worked (nI dl) i_isPlanned (-1) 0)), (q 51, .inl (E.2.1 0, 512, .inl n_2)), (q 55, .inl (E.2.1 0, 4, .inl n_4)), (q 54, .inl (E.2.1 0, 7, .inl a_bestGiven)), (q 53, .inl (E.2.1 0, 7, .inl a_given))]) [0, 1, 3, 7, 6] (by decide) rfl
  have hFc := va_free (wc := [(h0, .inr (12, mG q i_taped i_size i_sort i_what i_at i_end i_worth i_faultKind i_faultPlace i_got i_worked (nI dl) i_isPlanned (-1) 0)), (q 51, .inl (E.2.1 0, 512, .inl n_2)), (q 55, .inl (E.2.1 0, 4, .inl n_4)), (q 54, .inl (E.2.1 0, 7, .inl a_bestGiven)), (q 53, .inl (E.2.1 0, 7, .inl a_given))]) hD hS hA [0, 1, 3, 7, 6] rfl
  refine va_callv (va_runV (As := [.int 0]) (rest := []) ⟨hx, hb, hml, hown, hts⟩ (c_X12_give0 l E h0 q i_taped i_size i_sort i_what i_at i_end i_worth i_faultKind i_faultPlace i_got i_worked i_isPlanned (-1) 0 dl n_2 n_4 a_bestGiven a_given H.size hdl (Nat.zero_le _) hI_sets) (cwV 1 hts gX12_plan_X12_give rfl rfl rfl hdV_X12_give ⟨Nat.le_of_ble_eq_true rfl, Nat.le_of_ble_eq_true rfl⟩) ⟨pcW_blind, va_recv hK hPc (ci := 12) (q0 := 0) rfl rfl, (pcW_pre hPc hkn hDc hst hS hFc)⟩ rfl rfl hl.1 rfl (lv_room (Nat.le_of_ble_eq_true rfl)) dX12_plan_107 ⟨Nat.le_of_ble_eq_true rfl, Nat.le_of_ble_eq_true rfl⟩) hS (fun q _ h => hFc q h) hFc (fun u t H1 locs ht hvm hw_6 hB hz1 hk1 hS => ?_)
  obtain ⟨u_7, u_8, u_9, u_10, u_11⟩ := u
  obtain ⟨hf_12, hP1, hD1⟩ := hB
  rw [ht] at hP1
  try dsimp only at hw_6
  obtain ⟨hP, hD⟩ := va_join (wr := [(q 52, .inl (E.2.1 0, 512, .inl n_3)), (q 47, .inl (E.2.1 0, 4, .inl a_crewPort)), (q 48, .inl (E.2.1 0, 4, .inl a_crewDay)), (q 56, .inl (E.2.1 0, 7, .inl a_beginsOn)), (q 49, .inl (E.2.1 0, 100, .inl a_flights)), (q 42, .inl (E.2.1 0, 7, .inl a_dFrom)), (q 43, .inl (E.2.1 0, 7, .inl a_dTo)), (q 44, .inl (E.2.1 0, 7, .inl a_dDays)), (q 45, .inl (E.2.1 0, 7, .inl a_dFirst)), (q 46, .inl (E.2.1 0, 7, .inl a_dLast))]) (w1 := [(h0, .inr (12, mG q i_taped i_size i_sort i_what i_at i_end i_worth i_faultKind i_faultPlace i_got i_worked (nI dl) i_isPlanned u_7 u_8)), (q 51, .inl (E.2.1 0, 512, .inl n_2)), (q 55, .inl (E.2.1 0, 4, .inl u_9)), (q 54, .inl (E.2.1 0, 7, .inl u_10)), (q 53, .inl (E.2.1 0, 7, .inl u_11))]) hP hD [0, 1, 3, 7, 6] [2, 4, 5, 8, 9, 10, 11, 12, 13, 14] rfl rfl (by decide) (by decide) hk1 hFc hP1 hD1
  generalize H1 = H at hP hS ⊢
  have hP : va_P E.1 vwCl [(q 52, .inl (E.2.1 0, 512, .inl n_3)), (q 47, .inl (E.2.1 0, 4, .inl a_crewPort)), (q 48, .inl (E.2.1 0, 4, .inl a_crewDay)), (q 56, .inl (E.2.1 0, 7, .inl a_beginsOn)), (q 49, .inl (E.2.1 0, 100, .inl a_flights)), (q 42, .inl (E.2.1 0, 7, .inl a_dFrom)), (q 43, .inl (E.2.1 0, 7, .inl a_dTo)), (q 44, .inl (E.2.1 0, 7, .inl a_dDays)), (q 45, .inl (E.2.1 0, 7, .inl a_dFirst)), (q 46, .inl (E.2.1 0, 7, .inl a_dLast)), (h0, .inr (12, mG q i_taped i_size i_sort i_what i_at i_end i_worth i_faultKind i_faultPlace i_got i_worked (nI dl) i_isPlanned u_7 u_8)), (q 51, .inl (E.2.1 0, 512, .inl n_2)), (q 55, .inl (E.2.1 0, 4, .inl u_9)), (q 54, .inl (E.2.1 0, 7, .inl u_10)), (q 53, .inl (E.2.1 0, 7, .inl u_11))] H := hP
  have hD : va_D A [(q 52, .inl (E.2.1 0, 512, .inl n_3)), (q 47, .inl (E.2.1 0, 4, .inl a_crewPort)), (q 48, .inl (E.2.1 0, 4, .inl a_crewDay)), (q 56, .inl (E.2.1 0, 7, .inl a_beginsOn)), (q 49, .inl (E.2.1 0, 100, .inl a_flights)), (q 42, .inl (E.2.1 0, 7, .inl a_dFrom)), (q 43, .inl (E.2.1 0, 7, .inl a_dTo)), (q 44, .inl (E.2.1 0, 7, .inl a_dDays)), (q 45, .inl (E.2.1 0, 7, .inl a_dFirst)), (q 46, .inl (E.2.1 0, 7, .inl a_dLast)), (h0, .inr (12, mG q i_taped i_size i_sort i_what i_at i_end i_worth i_faultKind i_faultPlace i_got i_worked (nI dl) i_isPlanned u_7 u_8)), (q 51, .inl (E.2.1 0, 512, .inl n_2)), (q 55, .inl (E.2.1 0, 4, .inl u_9)), (q 54, .inl (E.2.1 0, 7, .inl u_10)), (q 53, .inl (E.2.1 0, 7, .inl u_11))] := hD
  refine lv_iconst (v := 0) hx hb dX12_plan_110 (by decide) ?_
  refine lv_istore_n (lv' := [(1, .int 0), (0, .ref h0)]) hx hb dX12_plan_111 rfl hl (by decide) rfl (fun ls hl => ?_)
  have hPl := hP.sub (ws' := [(h0, .inr (12, mG q i_taped i_size i_sort i_what i_at i_end i_worth i_faultKind i_faultPlace i_got i_worked (nI dl) i_isPlanned u_7 u_8)), (q 56, .inl (E.2.1 0, 7, .inl a_beginsOn)), (q 52, .inl (E.2.1 0, 512, .inl n_3)), (q 47, .inl (E.2.1 0, 4, .inl a_crewPort)), (q 48, .inl (E.2.1 0, 4, .inl a_crewDay)), (q 49, .inl (E.2.1 0, 100, .inl a_flights)), (q 42, .inl (E.2.1 0, 7, .inl a_dFrom)), (q 43, .inl (E.2.1 0, 7, .inl a_dTo)), (q 44, .inl (E.2.1 0, 7, .inl a_dDays)), (q 45, .inl (E.2.1 0, 7, .inl a_dFirst)), (q 46, .inl (E.2.1 0, 7, .inl a_dLast)), (q 51, .inl (E.2.1 0, 512, .inl n_2)), (q 55, .inl (E.2.1 0, 4, .inl u_9)), (q 54, .inl (E.2.1 0, 7, .inl u_10)), (q 53, .inl (E.2.1 0, 7, .inl u_11))]) [10, 3, 0, 1, 2, 4, 5, 6, 7, 8, 9, 11, 12, 13, 14] rfl
  have hDl := hD.sub (ws' := [(h0, .inr (12, mG q i_taped i_size i_sort i_what i_at i_end i_worth i_faultKind i_faultPlace i_got i_worked (nI dl) i_isPlanned u_7 u_8)), (q 56, .inl (E.2.1 0, 7, .inl a_beginsOn)), (q 52, .inl (E.2.1 0, 512, .inl n_3)), (q 47, .inl (E.2.1 0, 4, .inl a_crewPort)), (q 48, .inl (E.2.1 0, 4, .inl a_crewDay)), (q 49, .inl (E.2.1 0, 100, .inl a_flights)), (q 42, .inl (E.2.1 0, 7, .inl a_dFrom)), (q 43, .inl (E.2.1 0, 7, .inl a_dTo)), (q 44, .inl (E.2.1 0, 7, .inl a_dDays)), (q 45, .inl (E.2.1 0, 7, .inl a_dFirst)), (q 46, .inl (E.2.1 0, 7, .inl a_dLast)), (q 51, .inl (E.2.1 0, 512, .inl n_2)), (q 55, .inl (E.2.1 0, 4, .inl u_9)), (q 54, .inl (E.2.1 0, 7, .inl u_10)), (q 53, .inl (E.2.1 0, 7, .inl u_11))]) [10, 3, 0, 1, 2, 4, 5, 6, 7, 8, 9, 11, 12, 13, 14] (by decide) rfl
  refine lm_plan3 E h0 q i_taped i_size i_sort i_what i_at i_end i_worth i_faultKind i_faultPlace i_got i_worked i_isPlanned u_7 u_8 dl ([(q 52, .inl (E.2.1 0, 512, .inl n_3)), (q 47, .inl (E.2.1 0, 4, .inl a_crewPort)), (q 48, .inl (E.2.1 0, 4, .inl a_crewDay)), (q 49, .inl (E.2.1 0, 100, .inl a_flights)), (q 42, .inl (E.2.1 0, 7, .inl a_dFrom)), (q 43, .inl (E.2.1 0, 7, .inl a_dTo)), (q 44, .inl (E.2.1 0, 7, .inl a_dDays)), (q 45, .inl (E.2.1 0, 7, .inl a_dFirst)), (q 46, .inl (E.2.1 0, 7, .inl a_dLast)), (q 51, .inl (E.2.1 0, 512, .inl n_2)), (q 55, .inl (E.2.1 0, 4, .inl u_9)), (q 54, .inl (E.2.1 0, 7, .inl u_10)), (q 53, .inl (E.2.1 0, 7, .inl u_11))]) hx hb hml hown hts hkn hst hA (by omega) (fun n_13 H locs ls  hP hD hS hl => ?_) 9 0 a_beginsOn _ _ _ (by omega) (by omega) hPl hDl hS (lv_sub hl [1, 0] rfl)
  have hP : va_P E.1 vwCl [(h0, .inr (12, mG q i_taped i_size i_sort i_what i_at i_end i_worth i_faultKind i_faultPlace i_got i_worked (nI dl) i_isPlanned u_7 u_8)), (q 56, .inl (E.2.1 0, 7, .inl n_13)), (q 52, .inl (E.2.1 0, 512, .inl n_3)), (q 47, .inl (E.2.1 0, 4, .inl a_crewPort)), (q 48, .inl (E.2.1 0, 4, .inl a_crewDay)), (q 49, .inl (E.2.1 0, 100, .inl a_flights)), (q 42, .inl (E.2.1 0, 7, .inl a_dFrom)), (q 43, .inl (E.2.1 0, 7, .inl a_dTo)), (q 44, .inl (E.2.1 0, 7, .inl a_dDays)), (q 45, .inl (E.2.1 0, 7, .inl a_dFirst)), (q 46, .inl (E.2.1 0, 7, .inl a_dLast)), (q 51, .inl (E.2.1 0, 512, .inl n_2)), (q 55, .inl (E.2.1 0, 4, .inl u_9)), (q 54, .inl (E.2.1 0, 7, .inl u_10)), (q 53, .inl (E.2.1 0, 7, .inl u_11))] H := hP
  have hD : va_D A [(h0, .inr (12, mG q i_taped i_size i_sort i_what i_at i_end i_worth i_faultKind i_faultPlace i_got i_worked (nI dl) i_isPlanned u_7 u_8)), (q 56, .inl (E.2.1 0, 7, .inl n_13)), (q 52, .inl (E.2.1 0, 512, .inl n_3)), (q 47, .inl (E.2.1 0, 4, .inl a_crewPort)), (q 48, .inl (E.2.1 0, 4, .inl a_crewDay)), (q 49, .inl (E.2.1 0, 100, .inl a_flights)), (q 42, .inl (E.2.1 0, 7, .inl a_dFrom)), (q 43, .inl (E.2.1 0, 7, .inl a_dTo)), (q 44, .inl (E.2.1 0, 7, .inl a_dDays)), (q 45, .inl (E.2.1 0, 7, .inl a_dFirst)), (q 46, .inl (E.2.1 0, 7, .inl a_dLast)), (q 51, .inl (E.2.1 0, 512, .inl n_2)), (q 55, .inl (E.2.1 0, 4, .inl u_9)), (q 54, .inl (E.2.1 0, 7, .inl u_10)), (q 53, .inl (E.2.1 0, 7, .inl u_11))] := hD
  refine lv_iconst (v := 0) hx hb dX12_plan_133 (by decide) ?_
  refine lv_istore_n (lv' := [(1, .int 0), (0, .ref h0)]) hx hb dX12_plan_134 rfl hl (by decide) rfl (fun ls hl => ?_)
  have hPl := hP.sub (ws' := [(h0, .inr (12, mG q i_taped i_size i_sort i_what i_at i_end i_worth i_faultKind i_faultPlace i_got i_worked (nI dl) i_isPlanned u_7 u_8)), (q 54, .inl (E.2.1 0, 7, .inl u_10)), (q 52, .inl (E.2.1 0, 512, .inl n_3)), (q 47, .inl (E.2.1 0, 4, .inl a_crewPort)), (q 48, .inl (E.2.1 0, 4, .inl a_crewDay)), (q 42, .inl (E.2.1 0, 7, .inl a_dFrom)), (q 43, .inl (E.2.1 0, 7, .inl a_dTo)), (q 44, .inl (E.2.1 0, 7, .inl a_dDays)), (q 45, .inl (E.2.1 0, 7, .inl a_dFirst)), (q 56, .inl (E.2.1 0, 7, .inl n_13)), (q 49, .inl (E.2.1 0, 100, .inl a_flights)), (q 46, .inl (E.2.1 0, 7, .inl a_dLast)), (q 51, .inl (E.2.1 0, 512, .inl n_2)), (q 55, .inl (E.2.1 0, 4, .inl u_9)), (q 53, .inl (E.2.1 0, 7, .inl u_11))]) [0, 13, 2, 3, 4, 6, 7, 8, 9, 1, 5, 10, 11, 12, 14] rfl
  have hDl := hD.sub (ws' := [(h0, .inr (12, mG q i_taped i_size i_sort i_what i_at i_end i_worth i_faultKind i_faultPlace i_got i_worked (nI dl) i_isPlanned u_7 u_8)), (q 54, .inl (E.2.1 0, 7, .inl u_10)), (q 52, .inl (E.2.1 0, 512, .inl n_3)), (q 47, .inl (E.2.1 0, 4, .inl a_crewPort)), (q 48, .inl (E.2.1 0, 4, .inl a_crewDay)), (q 42, .inl (E.2.1 0, 7, .inl a_dFrom)), (q 43, .inl (E.2.1 0, 7, .inl a_dTo)), (q 44, .inl (E.2.1 0, 7, .inl a_dDays)), (q 45, .inl (E.2.1 0, 7, .inl a_dFirst)), (q 56, .inl (E.2.1 0, 7, .inl n_13)), (q 49, .inl (E.2.1 0, 100, .inl a_flights)), (q 46, .inl (E.2.1 0, 7, .inl a_dLast)), (q 51, .inl (E.2.1 0, 512, .inl n_2)), (q 55, .inl (E.2.1 0, 4, .inl u_9)), (q 53, .inl (E.2.1 0, 7, .inl u_11))]) [0, 13, 2, 3, 4, 6, 7, 8, 9, 1, 5, 10, 11, 12, 14] (by decide) rfl
  refine lm_plan4 E h0 q i_taped i_size i_sort i_what i_at i_end i_worth i_faultKind i_faultPlace i_got i_worked i_isPlanned u_7 u_8 dl u_10 n_3 a_crewPort a_crewDay a_dFrom a_dTo a_dDays a_dFirst ([(q 49, .inl (E.2.1 0, 100, .inl a_flights)), (q 46, .inl (E.2.1 0, 7, .inl a_dLast)), (q 51, .inl (E.2.1 0, 512, .inl n_2)), (q 55, .inl (E.2.1 0, 4, .inl u_9)), (q 53, .inl (E.2.1 0, 7, .inl u_11))]) hx hb hml hown hts hkn hst hA (by omega) hI_order hI_crewPort hI_dFrom hI_dTo (fun n_14 H locs ls  hP hD hS hl => ?_) 5 0 n_13 _ _ _ (by omega) (by omega) hPl hDl hS (lv_sub hl [1, 0] rfl)
  have hP : va_P E.1 vwCl [(h0, .inr (12, mG q i_taped i_size i_sort i_what i_at i_end i_worth i_faultKind i_faultPlace i_got i_worked (nI dl) i_isPlanned u_7 u_8)), (q 54, .inl (E.2.1 0, 7, .inl u_10)), (q 52, .inl (E.2.1 0, 512, .inl n_3)), (q 47, .inl (E.2.1 0, 4, .inl a_crewPort)), (q 48, .inl (E.2.1 0, 4, .inl a_crewDay)), (q 42, .inl (E.2.1 0, 7, .inl a_dFrom)), (q 43, .inl (E.2.1 0, 7, .inl a_dTo)), (q 44, .inl (E.2.1 0, 7, .inl a_dDays)), (q 45, .inl (E.2.1 0, 7, .inl a_dFirst)), (q 56, .inl (E.2.1 0, 7, .inl n_14)), (q 49, .inl (E.2.1 0, 100, .inl a_flights)), (q 46, .inl (E.2.1 0, 7, .inl a_dLast)), (q 51, .inl (E.2.1 0, 512, .inl n_2)), (q 55, .inl (E.2.1 0, 4, .inl u_9)), (q 53, .inl (E.2.1 0, 7, .inl u_11))] H := hP
  have hD : va_D A [(h0, .inr (12, mG q i_taped i_size i_sort i_what i_at i_end i_worth i_faultKind i_faultPlace i_got i_worked (nI dl) i_isPlanned u_7 u_8)), (q 54, .inl (E.2.1 0, 7, .inl u_10)), (q 52, .inl (E.2.1 0, 512, .inl n_3)), (q 47, .inl (E.2.1 0, 4, .inl a_crewPort)), (q 48, .inl (E.2.1 0, 4, .inl a_crewDay)), (q 42, .inl (E.2.1 0, 7, .inl a_dFrom)), (q 43, .inl (E.2.1 0, 7, .inl a_dTo)), (q 44, .inl (E.2.1 0, 7, .inl a_dDays)), (q 45, .inl (E.2.1 0, 7, .inl a_dFirst)), (q 56, .inl (E.2.1 0, 7, .inl n_14)), (q 49, .inl (E.2.1 0, 100, .inl a_flights)), (q 46, .inl (E.2.1 0, 7, .inl a_dLast)), (q 51, .inl (E.2.1 0, 512, .inl n_2)), (q 55, .inl (E.2.1 0, 4, .inl u_9)), (q 53, .inl (E.2.1 0, 7, .inl u_11))] := hD
  refine lv_aload_n hx hb dX12_plan_151 rfl (lv_at hl 0 rfl) ?_
  refine lv_iconst (v := 1) hx hb dX12_plan_152 (by decide) ?_
  refine va_put (D := E.1) (ci := 12) (v := .int 1) (ty := .boolean) (C := RX12) (T := TX12) (N := 59) hx hb hts inX12 tyX12 tyX12_ok nmX12 hown hK hP hD hS 0 rfl rfl 50 (by decide) fl292 (fun _ h9 => h9) rfl (by decide +kernel) (by first | rfl | decide) (by first | rfl | decide) (Nat.le_of_ble_eq_true rfl) dX12_plan_153 (fun H locs hP hD hS => ?_)
  have hP : va_P E.1 vwCl [(h0, .inr (12, mG q i_taped i_size i_sort i_what i_at i_end i_worth i_faultKind i_faultPlace i_got i_worked (nI dl) 1 u_7 u_8)), (q 54, .inl (E.2.1 0, 7, .inl u_10)), (q 52, .inl (E.2.1 0, 512, .inl n_3)), (q 47, .inl (E.2.1 0, 4, .inl a_crewPort)), (q 48, .inl (E.2.1 0, 4, .inl a_crewDay)), (q 42, .inl (E.2.1 0, 7, .inl a_dFrom)), (q 43, .inl (E.2.1 0, 7, .inl a_dTo)), (q 44, .inl (E.2.1 0, 7, .inl a_dDays)), (q 45, .inl (E.2.1 0, 7, .inl a_dFirst)), (q 56, .inl (E.2.1 0, 7, .inl n_14)), (q 49, .inl (E.2.1 0, 100, .inl a_flights)), (q 46, .inl (E.2.1 0, 7, .inl a_dLast)), (q 51, .inl (E.2.1 0, 512, .inl n_2)), (q 55, .inl (E.2.1 0, 4, .inl u_9)), (q 53, .inl (E.2.1 0, 7, .inl u_11))] H := hP
  have hD : va_D A [(h0, .inr (12, mG q i_taped i_size i_sort i_what i_at i_end i_worth i_faultKind i_faultPlace i_got i_worked (nI dl) 1 u_7 u_8)), (q 54, .inl (E.2.1 0, 7, .inl u_10)), (q 52, .inl (E.2.1 0, 512, .inl n_3)), (q 47, .inl (E.2.1 0, 4, .inl a_crewPort)), (q 48, .inl (E.2.1 0, 4, .inl a_crewDay)), (q 42, .inl (E.2.1 0, 7, .inl a_dFrom)), (q 43, .inl (E.2.1 0, 7, .inl a_dTo)), (q 44, .inl (E.2.1 0, 7, .inl a_dDays)), (q 45, .inl (E.2.1 0, 7, .inl a_dFirst)), (q 56, .inl (E.2.1 0, 7, .inl n_14)), (q 49, .inl (E.2.1 0, 100, .inl a_flights)), (q 46, .inl (E.2.1 0, 7, .inl a_dLast)), (q 51, .inl (E.2.1 0, 512, .inl n_2)), (q 55, .inl (E.2.1 0, 4, .inl u_9)), (q 53, .inl (E.2.1 0, 7, .inl u_11))] := hD
  refine lv_aload_n hx hb dX12_plan_156 rfl (lv_at hl 0 rfl) ?_
  refine va_get (D := E.1) (ci := 12) (v := .int u_7) (C := RX12) (T := TX12) (N := 59) hx hb hts inX12 hown hK hP 0 rfl rfl 57 (by decide) fl300 (fun _ h9 => h9) rfl dX12_plan_157 ?_
  have hP9 := hP.sub (ws' := [(h0, .inr (12, mG q i_taped i_size i_sort i_what i_at i_end i_worth i_faultKind i_faultPlace i_got i_worked (nI dl) 1 u_7 u_8)), (q 51, .inl (E.2.1 0, 512, .inl n_2)), (q 52, .inl (E.2.1 0, 512, .inl n_3)), (q 55, .inl (E.2.1 0, 4, .inl u_9)), (q 47, .inl (E.2.1 0, 4, .inl a_crewPort)), (q 48, .inl (E.2.1 0, 4, .inl a_crewDay)), (q 53, .inl (E.2.1 0, 7, .inl u_11)), (q 54, .inl (E.2.1 0, 7, .inl u_10)), (q 56, .inl (E.2.1 0, 7, .inl n_14)), (q 49, .inl (E.2.1 0, 100, .inl a_flights)), (q 42, .inl (E.2.1 0, 7, .inl a_dFrom)), (q 43, .inl (E.2.1 0, 7, .inl a_dTo)), (q 44, .inl (E.2.1 0, 7, .inl a_dDays)), (q 45, .inl (E.2.1 0, 7, .inl a_dFirst)), (q 46, .inl (E.2.1 0, 7, .inl a_dLast))]) [0, 12, 2, 13, 3, 4, 14, 1, 9, 10, 5, 6, 7, 8, 11] rfl
  have hD9 := hD.sub (ws' := [(h0, .inr (12, mG q i_taped i_size i_sort i_what i_at i_end i_worth i_faultKind i_faultPlace i_got i_worked (nI dl) 1 u_7 u_8)), (q 51, .inl (E.2.1 0, 512, .inl n_2)), (q 52, .inl (E.2.1 0, 512, .inl n_3)), (q 55, .inl (E.2.1 0, 4, .inl u_9)), (q 47, .inl (E.2.1 0, 4, .inl a_crewPort)), (q 48, .inl (E.2.1 0, 4, .inl a_crewDay)), (q 53, .inl (E.2.1 0, 7, .inl u_11)), (q 54, .inl (E.2.1 0, 7, .inl u_10)), (q 56, .inl (E.2.1 0, 7, .inl n_14)), (q 49, .inl (E.2.1 0, 100, .inl a_flights)), (q 42, .inl (E.2.1 0, 7, .inl a_dFrom)), (q 43, .inl (E.2.1 0, 7, .inl a_dTo)), (q 44, .inl (E.2.1 0, 7, .inl a_dDays)), (q 45, .inl (E.2.1 0, 7, .inl a_dFirst)), (q 46, .inl (E.2.1 0, 7, .inl a_dLast))]) [0, 12, 2, 13, 3, 4, 14, 1, 9, 10, 5, 6, 7, 8, 11] (by decide) rfl
  exact W.iret (v := u_7) hx hb hr (fun t ht hW => ⟨⟨u_7, (u_7, u_8, n_2, n_3, u_9, u_11, u_10, n_14), rfl, trivial, hI_order, hf_12, by rw [ht]; exact hP9, hD9⟩, hS.F ht⟩) hS.2.2 dX12_plan_160
set_option maxHeartbeats 4000000 in
set_option maxRecDepth 100000 in
theorem c_X12_planned (l : Launch) (E : vE) (h0 : Nat) (q : Nat → Nat) (i_taped : Int32) (i_size : Int32) (i_sort : Int32) (i_what : Int32) (i_at : Int32) (i_end : Int32) (i_worth : Int32) (i_faultKind : Int32) (i_faultPlace : Int32) (i_got : Int32) (i_worked : Int32) (i_isPlanned : Int32) (i_bestDone : Int32) (i_bestCost : Int32) (dl : Nat) (a_bestGiven : Nat → Int32) (a_beginsOn : Nat → Int32) (what : Int32) (sz : Nat) (hdl : dl ≤ 7) : Met l yX12_planned wsX12_planned ({ frames := 2, cells := 0, slots := 0, locals := 42 }) (pcW E [.ref h0, .int what] sz [(h0, .inr (12, mG q i_taped i_size i_sort i_what i_at i_end i_worth i_faultKind i_faultPlace i_got i_worked (nI dl) i_isPlanned i_bestDone i_bestCost)), (q 54, .inl (E.2.1 0, 7, .inl a_bestGiven)), (q 56, .inl (E.2.1 0, 7, .inl a_beginsOn))]) (va_Qi (fun (r : Int32) (_ : Unit) => True) (fun (_ : Unit) (t : State) => wB E (va_A [(h0, .inr (12, mG q i_taped i_size i_sort i_what i_at i_end i_worth i_faultKind i_faultPlace i_got i_worked (nI dl) i_isPlanned i_bestDone i_bestCost)), (q 54, .inl (E.2.1 0, 7, .inl a_bestGiven)), (q 56, .inl (E.2.1 0, 7, .inl a_beginsOn))] sz) [(h0, .inr (12, mG q i_taped i_size i_sort i_what i_at i_end i_worth i_faultKind i_faultPlace i_got i_worked (nI dl) i_isPlanned i_bestDone i_bestCost)), (q 54, .inl (E.2.1 0, 7, .inl a_bestGiven)), (q 56, .inl (E.2.1 0, 7, .inl a_beginsOn))] t) (va_A [(h0, .inr (12, mG q i_taped i_size i_sort i_what i_at i_end i_worth i_faultKind i_faultPlace i_got i_worked (nI dl) i_isPlanned i_bestDone i_bestCost)), (q 54, .inl (E.2.1 0, 7, .inl a_bestGiven)), (q 56, .inl (E.2.1 0, 7, .inl a_beginsOn))] sz)) 0 0 (va_A [(h0, .inr (12, mG q i_taped i_size i_sort i_what i_at i_end i_worth i_faultKind i_faultPlace i_got i_worked (nI dl) i_isPlanned i_bestDone i_bestCost)), (q 54, .inl (E.2.1 0, 7, .inl a_bestGiven)), (q 56, .inl (E.2.1 0, 7, .inl a_beginsOn))] sz) := by
  refine Met.ofW (cc := cX12_planned) (maxL := 2) (ret := (some .int)) (by decide) rfl ?_
  intro p e s m args below meth c s₁ B hml hv
  obtain ⟨rfl, hsz, hP, hkn, hD0, hst⟩ := hv
  have hx := B.exec
  have hb := B.bytes
  have hr := B.returns
  have hts := atoms_spec (ws := wsX12_planned) B.pre
  have hown : s.vm.findClass RX12 = some m.cls := findClass_of_methodNamed B.named
  have hlocks := B.notSynchronized
  subst hsz
  have hD := hD0.self (sz := s.heap.size)
  have hK := hkn.1
  have hAO := hkn.2.2.1
  generalize hAe : va_A [(h0, .inr (12, mG q i_taped i_size i_sort i_what i_at i_end i_worth i_faultKind i_faultPlace i_got i_worked (nI dl) i_isPlanned i_bestDone i_bestCost)), (q 54, .inl (E.2.1 0, 7, .inl a_bestGiven)), (q 56, .inl (E.2.1 0, 7, .inl a_beginsOn))] s.heap.size = A at hD hst ⊢
  have hA : ∀ q : Nat, s.heap.size ≤ q → A q := fun q h => by rw [← hAe]; exact Or.inr h
  have hS : va_S A s.heap s.heap [] := va_S.rf
  have hP : va_P E.1 vwCl [(h0, .inr (12, mG q i_taped i_size i_sort i_what i_at i_end i_worth i_faultKind i_faultPlace i_got i_worked (nI dl) i_isPlanned i_bestDone i_bestCost)), (q 54, .inl (E.2.1 0, 7, .inl a_bestGiven)), (q 56, .inl (E.2.1 0, 7, .inl a_beginsOn))] s.heap := hP
  have hl := lv_entry ([.ref h0, .int what]) (n := 2) (Nat.le_of_ble_eq_true rfl)
  rw [lg_entry_eq]
  generalize (lg_sl ([.ref h0, .int what]) ++ List.replicate (2 - (lg_sl ([.ref h0, .int what])).length) Slot.unset).toArray = ls at hl ⊢
  have hl : lv_has ls 2 [(0, .ref h0), (1, .int what)] := hl
  have fl139 := hts (.fieldLink RX12 139 "BoatsHomeModel" "bestGiven" "[I") (by first | exact List.mem_of_getElem? (i := 4) rfl | decide +kernel)
  have fl145 := hts (.fieldLink RX12 145 "BoatsHomeModel" "beginsOn" "[I") (by first | exact List.mem_of_getElem? (i := 5) rfl | decide +kernel)
  have fl289 := hts (.fieldLink RX12 289 "BoatsHomeModel" "deliveries" "I") (by first | exact List.mem_of_getElem? (i := 3) rfl | decide +kernel)
  have fl292 := hts (.fieldLink RX12 292 "BoatsHomeModel" "isPlanned" "Z") (by first | exact List.mem_of_getElem? (i := 1) rfl | decide +kernel)
  have fl303 := hts (.fieldLink RX12 303 "BoatsHomeModel" "bestCost" "I") (by first | exact List.mem_of_getElem? (i := 2) rfl | decide +kernel)
  have inX12 : ∀ w ∈ u_ws RX12 TX12 59, w ∈ wsX12_planned := by first | exact fun w h9 => (List.mem_cons_of_mem _ (List.mem_append_right _ h9)) | decide +kernel
  refine lv_aload_n hx hb dX12_planned_0 rfl (lv_at hl 0 rfl) ?_
  refine va_get (D := E.1) (ci := 12) (v := .int i_isPlanned) (C := RX12) (T := TX12) (N := 59) hx hb hts inX12 hown hK hP 0 rfl rfl 50 (by decide) fl292 (fun _ h9 => h9) rfl dX12_planned_1 ?_
  refine lv_if_ne (tgt := 10) hx hb dX12_planned_4 (by decide) (fun c_1 => ?_) (fun c_1 => ?_)
  · refine lv_iload_n hx hb dX12_planned_10 rfl (lv_at hl 1 rfl) ?_
    refine lv_if_ne (tgt := 19) hx hb dX12_planned_11 (by decide) (fun c_2 => ?_) (fun c_2 => ?_)
    · refine lv_iload_n hx hb dX12_planned_19 rfl (lv_at hl 1 rfl) ?_
      refine lv_bipush (v := 10) hx hb dX12_planned_20 (by decide) ?_
      refine lv_bipush (v := 9) hx hb dX12_planned_22 (by decide) ?_
      refine lv_aload_n hx hb dX12_planned_24 rfl (lv_at hl 0 rfl) ?_
      refine va_get (D := E.1) (ci := 12) (v := .int (nI dl)) (C := RX12) (T := TX12) (N := 59) hx hb hts inX12 hown hK hP 0 rfl rfl 41 (by decide) fl289 (fun _ h9 => h9) rfl dX12_planned_25 ?_
      refine lv_iadd hx hb dX12_planned_28 ?_
      refine lv_topi (fun x_3 ex_3 => ?_)
      obtain rfl : x_3 = nI (9 + dl) := ex_3.trans (nI_add 9 dl)
      have hPc := hP.sub (ws' := []) [] rfl
      have hDc := hD.sub (ws' := []) [] (by decide) rfl
      have hFc := va_free (wc := []) hD hS hA [] rfl
      refine va_calli (va_runS (As := [.int what, .int 10, .int (nI (9 + dl))]) (rest := []) ⟨hx, hb, hml, hown, hts⟩ (c_X12_in l E what 10 (nI (9 + dl)) s.heap.size ) (va_cwS 3 hts gX12_planned_X12_in rfl rfl rfl hdS_X12_in ⟨Nat.le_of_ble_eq_true rfl, Nat.le_of_ble_eq_true rfl⟩) ⟨pcW_blind, (pcW_pre hPc hkn hDc hst hS hFc)⟩ rfl rfl hl.1 rfl (lv_room (Nat.le_of_ble_eq_true rfl)) dX12_planned_29 ⟨Nat.le_of_ble_eq_true rfl, Nat.le_of_ble_eq_true rfl⟩) hS (fun q _ h => hFc q h) hFc (fun r_4 u t H1 locs ht hvm hw_5 hB hz1 hk1 hS => ?_)
      obtain ⟨hP1, hD1⟩ := hB
      rw [ht] at hP1
      try dsimp only at hw_5
      obtain ⟨hP, hD⟩ := va_join (wr := [(h0, .inr (12, mG q i_taped i_size i_sort i_what i_at i_end i_worth i_faultKind i_faultPlace i_got i_worked (nI dl) i_isPlanned i_bestDone i_bestCost)), (q 54, .inl (E.2.1 0, 7, .inl a_bestGiven)), (q 56, .inl (E.2.1 0, 7, .inl a_beginsOn))]) (w1 := []) hP hD [] [0, 1, 2] rfl rfl (by decide) (by decide) hk1 hFc hP1 hD1
      generalize H1 = H at hP hS ⊢
      have hP : va_P E.1 vwCl [(h0, .inr (12, mG q i_taped i_size i_sort i_what i_at i_end i_worth i_faultKind i_faultPlace i_got i_worked (nI dl) i_isPlanned i_bestDone i_bestCost)), (q 54, .inl (E.2.1 0, 7, .inl a_bestGiven)), (q 56, .inl (E.2.1 0, 7, .inl a_beginsOn))] H := hP
      have hD : va_D A [(h0, .inr (12, mG q i_taped i_size i_sort i_what i_at i_end i_worth i_faultKind i_faultPlace i_got i_worked (nI dl) i_isPlanned i_bestDone i_bestCost)), (q 54, .inl (E.2.1 0, 7, .inl a_bestGiven)), (q 56, .inl (E.2.1 0, 7, .inl a_beginsOn))] := hD
      refine lv_if_eq (tgt := 45) hx hb dX12_planned_32 (by decide) (fun c_6 => ?_) (fun c_6 => ?_)
      · have b_7 : inR what 10 (nI (9 + dl)) = false := bz hw_5 c_6
        refine lv_iload_n hx hb dX12_planned_45 rfl (lv_at hl 1 rfl) ?_
        refine lv_bipush (v := 20) hx hb dX12_planned_46 (by decide) ?_
        refine lv_bipush (v := 19) hx hb dX12_planned_48 (by decide) ?_
        refine lv_aload_n hx hb dX12_planned_50 rfl (lv_at hl 0 rfl) ?_
        refine va_get (D := E.1) (ci := 12) (v := .int (nI dl)) (C := RX12) (T := TX12) (N := 59) hx hb hts inX12 hown hK hP 0 rfl rfl 41 (by decide) fl289 (fun _ h9 => h9) rfl dX12_planned_51 ?_
        refine lv_iadd hx hb dX12_planned_54 ?_
        refine lv_topi (fun x_8 ex_8 => ?_)
        obtain rfl : x_8 = nI (19 + dl) := ex_8.trans (nI_add 19 dl)
        have hPc := hP.sub (ws' := []) [] rfl
        have hDc := hD.sub (ws' := []) [] (by decide) rfl
        have hFc := va_free (wc := []) hD hS hA [] rfl
        refine va_calli (va_runS (As := [.int what, .int 20, .int (nI (19 + dl))]) (rest := []) ⟨hx, hb, hml, hown, hts⟩ (c_X12_in l E what 20 (nI (19 + dl)) H.size ) (va_cwS 3 hts gX12_planned_X12_in rfl rfl rfl hdS_X12_in ⟨Nat.le_of_ble_eq_true rfl, Nat.le_of_ble_eq_true rfl⟩) ⟨pcW_blind, (pcW_pre hPc hkn hDc hst hS hFc)⟩ rfl rfl hl.1 rfl (lv_room (Nat.le_of_ble_eq_true rfl)) dX12_planned_55 ⟨Nat.le_of_ble_eq_true rfl, Nat.le_of_ble_eq_true rfl⟩) hS (fun q _ h => hFc q h) hFc (fun r_9 u t H1 locs ht hvm hw_10 hB hz1 hk1 hS => ?_)
        obtain ⟨hP1, hD1⟩ := hB
        rw [ht] at hP1
        try dsimp only at hw_10
        obtain ⟨hP, hD⟩ := va_join (wr := [(h0, .inr (12, mG q i_taped i_size i_sort i_what i_at i_end i_worth i_faultKind i_faultPlace i_got i_worked (nI dl) i_isPlanned i_bestDone i_bestCost)), (q 54, .inl (E.2.1 0, 7, .inl a_bestGiven)), (q 56, .inl (E.2.1 0, 7, .inl a_beginsOn))]) (w1 := []) hP hD [] [0, 1, 2] rfl rfl (by decide) (by decide) hk1 hFc hP1 hD1
        generalize H1 = H at hP hS ⊢
        have hP : va_P E.1 vwCl [(h0, .inr (12, mG q i_taped i_size i_sort i_what i_at i_end i_worth i_faultKind i_faultPlace i_got i_worked (nI dl) i_isPlanned i_bestDone i_bestCost)), (q 54, .inl (E.2.1 0, 7, .inl a_bestGiven)), (q 56, .inl (E.2.1 0, 7, .inl a_beginsOn))] H := hP
        have hD : va_D A [(h0, .inr (12, mG q i_taped i_size i_sort i_what i_at i_end i_worth i_faultKind i_faultPlace i_got i_worked (nI dl) i_isPlanned i_bestDone i_bestCost)), (q 54, .inl (E.2.1 0, 7, .inl a_bestGiven)), (q 56, .inl (E.2.1 0, 7, .inl a_beginsOn))] := hD
        refine lv_if_eq (tgt := 73) hx hb dX12_planned_58 (by decide) (fun c_11 => ?_) (fun c_11 => ?_)
        · have b_12 : inR what 20 (nI (19 + dl)) = false := bz hw_10 c_11
          refine lv_bipush (v := (-9)) hx hb dX12_planned_73 (by decide) ?_
          have hP9 := hP.sub (ws' := [(h0, .inr (12, mG q i_taped i_size i_sort i_what i_at i_end i_worth i_faultKind i_faultPlace i_got i_worked (nI dl) i_isPlanned i_bestDone i_bestCost)), (q 54, .inl (E.2.1 0, 7, .inl a_bestGiven)), (q 56, .inl (E.2.1 0, 7, .inl a_beginsOn))]) [0, 1, 2] rfl
          have hD9 := hD.sub (ws' := [(h0, .inr (12, mG q i_taped i_size i_sort i_what i_at i_end i_worth i_faultKind i_faultPlace i_got i_worked (nI dl) i_isPlanned i_bestDone i_bestCost)), (q 54, .inl (E.2.1 0, 7, .inl a_bestGiven)), (q 56, .inl (E.2.1 0, 7, .inl a_beginsOn))]) [0, 1, 2] (by decide) rfl
          exact W.iret (v := (-9)) hx hb hr (fun t ht hW => ⟨⟨(-9), (), rfl, trivial, by rw [ht]; exact hP9, hD9⟩, hS.F ht⟩) hS.2.2 dX12_planned_75
        · have b_13 : inR what 20 (nI (19 + dl)) = true := bn hw_10 c_11
          refine lv_aload_n hx hb dX12_planned_61 rfl (lv_at hl 0 rfl) ?_
          refine va_get (D := E.1) (ci := 12) (v := .ref (q 56)) (C := RX12) (T := TX12) (N := 59) hx hb hts inX12 hown hK hP 0 rfl rfl 56 (by decide) fl145 (fun _ h9 => h9) rfl dX12_planned_62 ?_
          refine lv_iload_n hx hb dX12_planned_65 rfl (lv_at hl 1 rfl) ?_
          refine lv_bipush (v := 20) hx hb dX12_planned_66 (by decide) ?_
          refine lv_isub hx hb dX12_planned_68 ?_
          refine lv_topi (fun x_14 ex_14 => ?_)
          have hi_15 : vp_in x_14 7 := by rw [ex_14]; exact pl_ixM (a := 20) (K := 19) (on := dl) b_13 hdl rfl (by decide) rfl
          refine va_iald hx hb hK hP 2 0 rfl rfl hi_15 dX12_planned_69 ?_
          refine lv_topi (fun x_16 ex_16 => ?_)
          refine lv_goto (tgt := 75) hx hb dX12_planned_70 (by decide) ?_
          have hP9 := hP.sub (ws' := [(h0, .inr (12, mG q i_taped i_size i_sort i_what i_at i_end i_worth i_faultKind i_faultPlace i_got i_worked (nI dl) i_isPlanned i_bestDone i_bestCost)), (q 54, .inl (E.2.1 0, 7, .inl a_bestGiven)), (q 56, .inl (E.2.1 0, 7, .inl a_beginsOn))]) [0, 1, 2] rfl
          have hD9 := hD.sub (ws' := [(h0, .inr (12, mG q i_taped i_size i_sort i_what i_at i_end i_worth i_faultKind i_faultPlace i_got i_worked (nI dl) i_isPlanned i_bestDone i_bestCost)), (q 54, .inl (E.2.1 0, 7, .inl a_bestGiven)), (q 56, .inl (E.2.1 0, 7, .inl a_beginsOn))]) [0, 1, 2] (by decide) rfl
          exact W.iret (v := x_16) hx hb hr (fun t ht hW => ⟨⟨x_16, (), rfl, trivial, by rw [ht]; exact hP9, hD9⟩, hS.F ht⟩) hS.2.2 dX12_planned_75
      · have b_17 : inR what 10 (nI (9 + dl)) = true := bn hw_5 c_6
        refine lv_aload_n hx hb dX12_planned_35 rfl (lv_at hl 0 rfl) ?_
        refine va_get (D := E.1) (ci := 12) (v := .ref (q 54)) (C := RX12) (T := TX12) (N := 59) hx hb hts inX12 hown hK hP 0 rfl rfl 54 (by decide) fl139 (fun _ h9 => h9) rfl dX12_planned_36 ?_
        refine lv_iload_n hx hb dX12_planned_39 rfl (lv_at hl 1 rfl) ?_
        refine lv_bipush (v := 10) hx hb dX12_planned_40 (by decide) ?_
        refine lv_isub hx hb dX12_planned_42 ?_
        refine lv_topi (fun x_18 ex_18 => ?_)
        have hi_19 : vp_in x_18 7 := by rw [ex_18]; exact pl_ixM (a := 10) (K := 9) (on := dl) b_17 hdl rfl (by decide) rfl
        refine va_iald hx hb hK hP 1 0 rfl rfl hi_19 dX12_planned_43 ?_
        refine lv_topi (fun x_20 ex_20 => ?_)
        have hP9 := hP.sub (ws' := [(h0, .inr (12, mG q i_taped i_size i_sort i_what i_at i_end i_worth i_faultKind i_faultPlace i_got i_worked (nI dl) i_isPlanned i_bestDone i_bestCost)), (q 54, .inl (E.2.1 0, 7, .inl a_bestGiven)), (q 56, .inl (E.2.1 0, 7, .inl a_beginsOn))]) [0, 1, 2] rfl
        have hD9 := hD.sub (ws' := [(h0, .inr (12, mG q i_taped i_size i_sort i_what i_at i_end i_worth i_faultKind i_faultPlace i_got i_worked (nI dl) i_isPlanned i_bestDone i_bestCost)), (q 54, .inl (E.2.1 0, 7, .inl a_bestGiven)), (q 56, .inl (E.2.1 0, 7, .inl a_beginsOn))]) [0, 1, 2] (by decide) rfl
        exact W.iret (v := x_20) hx hb hr (fun t ht hW => ⟨⟨x_20, (), rfl, trivial, by rw [ht]; exact hP9, hD9⟩, hS.F ht⟩) hS.2.2 dX12_planned_44
    · refine lv_aload_n hx hb dX12_planned_14 rfl (lv_at hl 0 rfl) ?_
      refine va_get (D := E.1) (ci := 12) (v := .int i_bestCost) (C := RX12) (T := TX12) (N := 59) hx hb hts inX12 hown hK hP 0 rfl rfl 58 (by decide) fl303 (fun _ h9 => h9) rfl dX12_planned_15 ?_
      have hP9 := hP.sub (ws' := [(h0, .inr (12, mG q i_taped i_size i_sort i_what i_at i_end i_worth i_faultKind i_faultPlace i_got i_worked (nI dl) i_isPlanned i_bestDone i_bestCost)), (q 54, .inl (E.2.1 0, 7, .inl a_bestGiven)), (q 56, .inl (E.2.1 0, 7, .inl a_beginsOn))]) [0, 1, 2] rfl
      have hD9 := hD.sub (ws' := [(h0, .inr (12, mG q i_taped i_size i_sort i_what i_at i_end i_worth i_faultKind i_faultPlace i_got i_worked (nI dl) i_isPlanned i_bestDone i_bestCost)), (q 54, .inl (E.2.1 0, 7, .inl a_bestGiven)), (q 56, .inl (E.2.1 0, 7, .inl a_beginsOn))]) [0, 1, 2] (by decide) rfl
      exact W.iret (v := i_bestCost) hx hb hr (fun t ht hW => ⟨⟨i_bestCost, (), rfl, trivial, by rw [ht]; exact hP9, hD9⟩, hS.F ht⟩) hS.2.2 dX12_planned_18
  · refine lv_bipush (v := (-9)) hx hb dX12_planned_7 (by decide) ?_
    have hP9 := hP.sub (ws' := [(h0, .inr (12, mG q i_taped i_size i_sort i_what i_at i_end i_worth i_faultKind i_faultPlace i_got i_worked (nI dl) i_isPlanned i_bestDone i_bestCost)), (q 54, .inl (E.2.1 0, 7, .inl a_bestGiven)), (q 56, .inl (E.2.1 0, 7, .inl a_beginsOn))]) [0, 1, 2] rfl
    have hD9 := hD.sub (ws' := [(h0, .inr (12, mG q i_taped i_size i_sort i_what i_at i_end i_worth i_faultKind i_faultPlace i_got i_worked (nI dl) i_isPlanned i_bestDone i_bestCost)), (q 54, .inl (E.2.1 0, 7, .inl a_bestGiven)), (q 56, .inl (E.2.1 0, 7, .inl a_beginsOn))]) [0, 1, 2] (by decide) rfl
    exact W.iret (v := (-9)) hx hb hr (fun t ht hW => ⟨⟨(-9), (), rfl, trivial, by rw [ht]; exact hP9, hD9⟩, hS.F ht⟩) hS.2.2 dX12_planned_9
set_option maxHeartbeats 4000000 in
set_option maxRecDepth 100000 in
theorem c_X12_count (l : Launch) (E : vE) (h0 : Nat) (q : Nat → Nat) (i_size : Int32) (i_sort : Int32) (i_what : Int32) (i_at : Int32) (i_end : Int32) (i_worth : Int32) (i_faultKind : Int32) (i_faultPlace : Int32) (i_got : Int32) (i_isPlanned : Int32) (i_bestDone : Int32) (i_bestCost : Int32) (dl : Nat) (wk9 : Nat) (ln : Nat) (a_crewPort : Nat → Int32) (a_ruleMany : Nat → Int32) (a_boxMany : Nat → Int32) (a_ports : Nat → Int32) (what : Int32) (sz : Nat) (hI_crewPort : ∀ k : Nat, k < 4 → inR (a_crewPort k) (-1) 9 = true) (hI_ruleMany : ∀ k : Nat, k < 7 → inR (a_ruleMany k) 0 12 = true) (hI_boxMany : ∀ k : Nat, k < 7 → inR (a_boxMany k) 0 12 = true) (hI_ports : ∀ k : Nat, k < 10 → isPl (a_ports k) = true) : Met l yX12_count wsX12_count ({ frames := 2, cells := 0, slots := 0, locals := 42 }) (pcW E [.ref h0, .int what] sz [(h0, .inr (12, mG q (nI ln) i_size i_sort i_what i_at i_end i_worth i_faultKind i_faultPlace i_got (nI wk9) (nI dl) i_isPlanned i_bestDone i_bestCost)), (q 47, .inl (E.2.1 0, 4, .inl a_crewPort)), (q 11, .inl (E.2.1 0, 7, .inl a_ruleMany)), (q 13, .inl (E.2.1 0, 7, .inl a_boxMany)), (q 19, .inl (E.2.1 0, 10, .inl a_ports))]) (va_Qi (fun (r : Int32) (_ : Unit) => True) (fun (_ : Unit) (t : State) => wB E (va_A [(h0, .inr (12, mG q (nI ln) i_size i_sort i_what i_at i_end i_worth i_faultKind i_faultPlace i_got (nI wk9) (nI dl) i_isPlanned i_bestDone i_bestCost)), (q 47, .inl (E.2.1 0, 4, .inl a_crewPort)), (q 11, .inl (E.2.1 0, 7, .inl a_ruleMany)), (q 13, .inl (E.2.1 0, 7, .inl a_boxMany)), (q 19, .inl (E.2.1 0, 10, .inl a_ports))] sz) [(h0, .inr (12, mG q (nI ln) i_size i_sort i_what i_at i_end i_worth i_faultKind i_faultPlace i_got (nI wk9) (nI dl) i_isPlanned i_bestDone i_bestCost)), (q 47, .inl (E.2.1 0, 4, .inl a_crewPort)), (q 11, .inl (E.2.1 0, 7, .inl a_ruleMany)), (q 13, .inl (E.2.1 0, 7, .inl a_boxMany)), (q 19, .inl (E.2.1 0, 10, .inl a_ports))] t) (va_A [(h0, .inr (12, mG q (nI ln) i_size i_sort i_what i_at i_end i_worth i_faultKind i_faultPlace i_got (nI wk9) (nI dl) i_isPlanned i_bestDone i_bestCost)), (q 47, .inl (E.2.1 0, 4, .inl a_crewPort)), (q 11, .inl (E.2.1 0, 7, .inl a_ruleMany)), (q 13, .inl (E.2.1 0, 7, .inl a_boxMany)), (q 19, .inl (E.2.1 0, 10, .inl a_ports))] sz)) 0 0 (va_A [(h0, .inr (12, mG q (nI ln) i_size i_sort i_what i_at i_end i_worth i_faultKind i_faultPlace i_got (nI wk9) (nI dl) i_isPlanned i_bestDone i_bestCost)), (q 47, .inl (E.2.1 0, 4, .inl a_crewPort)), (q 11, .inl (E.2.1 0, 7, .inl a_ruleMany)), (q 13, .inl (E.2.1 0, 7, .inl a_boxMany)), (q 19, .inl (E.2.1 0, 10, .inl a_ports))] sz) := by
  refine Met.ofW (cc := cX12_count) (maxL := 4) (ret := (some .int)) (by decide) rfl ?_
  intro p e s m args below meth c s₁ B hml hv
  obtain ⟨rfl, hsz, hP, hkn, hD0, hst⟩ := hv
  have hx := B.exec
  have hb := B.bytes
  have hr := B.returns
  have hts := atoms_spec (ws := wsX12_count) B.pre
  have hown : s.vm.findClass RX12 = some m.cls := findClass_of_methodNamed B.named
  have hlocks := B.notSynchronized
  subst hsz
  have hD := hD0.self (sz := s.heap.size)
  have hK := hkn.1
  have hAO := hkn.2.2.1
  generalize hAe : va_A [(h0, .inr (12, mG q (nI ln) i_size i_sort i_what i_at i_end i_worth i_faultKind i_faultPlace i_got (nI wk9) (nI dl) i_isPlanned i_bestDone i_bestCost)), (q 47, .inl (E.2.1 0, 4, .inl a_crewPort)), (q 11, .inl (E.2.1 0, 7, .inl a_ruleMany)), (q 13, .inl (E.2.1 0, 7, .inl a_boxMany)), (q 19, .inl (E.2.1 0, 10, .inl a_ports))] s.heap.size = A at hD hst ⊢
  have hA : ∀ q : Nat, s.heap.size ≤ q → A q := fun q h => by rw [← hAe]; exact Or.inr h
  have hS : va_S A s.heap s.heap [] := va_S.rf
  have hP : va_P E.1 vwCl [(h0, .inr (12, mG q (nI ln) i_size i_sort i_what i_at i_end i_worth i_faultKind i_faultPlace i_got (nI wk9) (nI dl) i_isPlanned i_bestDone i_bestCost)), (q 47, .inl (E.2.1 0, 4, .inl a_crewPort)), (q 11, .inl (E.2.1 0, 7, .inl a_ruleMany)), (q 13, .inl (E.2.1 0, 7, .inl a_boxMany)), (q 19, .inl (E.2.1 0, 10, .inl a_ports))] s.heap := hP
  have hl := lv_entry ([.ref h0, .int what]) (n := 4) (Nat.le_of_ble_eq_true rfl)
  rw [lg_entry_eq]
  generalize (lg_sl ([.ref h0, .int what]) ++ List.replicate (4 - (lg_sl ([.ref h0, .int what])).length) Slot.unset).toArray = ls at hl ⊢
  have hl : lv_has ls 4 [(0, .ref h0), (1, .int what)] := hl
  have fl21 := hts (.fieldLink RX12 21 "BoatsHomeModel" "ruleMany" "[I") (by first | exact List.mem_of_getElem? (i := 5) rfl | decide +kernel)
  have fl27 := hts (.fieldLink RX12 27 "BoatsHomeModel" "boxMany" "[I") (by first | exact List.mem_of_getElem? (i := 6) rfl | decide +kernel)
  have fl42 := hts (.fieldLink RX12 42 "BoatsHomeModel" "ports" "[I") (by first | exact List.mem_of_getElem? (i := 7) rfl | decide +kernel)
  have fl121 := hts (.fieldLink RX12 121 "BoatsHomeModel" "crewPort" "[I") (by first | exact List.mem_of_getElem? (i := 3) rfl | decide +kernel)
  have fl152 := hts (.fieldLink RX12 152 "BoatsHomeModel" "taped" "I") (by first | exact List.mem_of_getElem? (i := 4) rfl | decide +kernel)
  have fl280 := hts (.fieldLink RX12 280 "BoatsHomeModel" "worked" "I") (by first | exact List.mem_of_getElem? (i := 1) rfl | decide +kernel)
  have fl289 := hts (.fieldLink RX12 289 "BoatsHomeModel" "deliveries" "I") (by first | exact List.mem_of_getElem? (i := 2) rfl | decide +kernel)
  have inX12 : ∀ w ∈ u_ws RX12 TX12 59, w ∈ wsX12_count := by first | exact fun w h9 => (List.mem_cons_of_mem _ (List.mem_append_right _ h9)) | decide +kernel
  refine lv_iconst (v := 0) hx hb dX12_count_0 (by decide) ?_
  refine lv_istore_n (lv' := [(2, .int 0), (0, .ref h0), (1, .int what)]) hx hb dX12_count_1 rfl hl (by decide) rfl (fun ls hl => ?_)
  refine lv_iload_n hx hb dX12_count_2 rfl (lv_at hl 2 rfl) ?_
  by_cases c_1 : what = 0
  · refine lv_tableIn (tgt := 32) hx hb dX12_count_3 (by rw [c_1]; decide) (by rw [c_1]; decide) (off := 29) (by rw [c_1]; rfl) (by decide) ?_
    refine lv_aload_n hx hb dX12_count_32 rfl (lv_at hl 1 rfl) ?_
    refine va_get (D := E.1) (ci := 12) (v := .int (nI wk9)) (C := RX12) (T := TX12) (N := 59) hx hb hts inX12 hown hK hP 0 rfl rfl 23 (by decide) fl280 (fun _ h9 => h9) rfl dX12_count_33 ?_
    have hP9 := hP.sub (ws' := [(h0, .inr (12, mG q (nI ln) i_size i_sort i_what i_at i_end i_worth i_faultKind i_faultPlace i_got (nI wk9) (nI dl) i_isPlanned i_bestDone i_bestCost)), (q 47, .inl (E.2.1 0, 4, .inl a_crewPort)), (q 11, .inl (E.2.1 0, 7, .inl a_ruleMany)), (q 13, .inl (E.2.1 0, 7, .inl a_boxMany)), (q 19, .inl (E.2.1 0, 10, .inl a_ports))]) [0, 1, 2, 3, 4] rfl
    have hD9 := hD.sub (ws' := [(h0, .inr (12, mG q (nI ln) i_size i_sort i_what i_at i_end i_worth i_faultKind i_faultPlace i_got (nI wk9) (nI dl) i_isPlanned i_bestDone i_bestCost)), (q 47, .inl (E.2.1 0, 4, .inl a_crewPort)), (q 11, .inl (E.2.1 0, 7, .inl a_ruleMany)), (q 13, .inl (E.2.1 0, 7, .inl a_boxMany)), (q 19, .inl (E.2.1 0, 10, .inl a_ports))]) [0, 1, 2, 3, 4] (by decide) rfl
    exact W.iret (v := (nI wk9)) hx hb hr (fun t ht hW => ⟨⟨(nI wk9), (), rfl, trivial, by rw [ht]; exact hP9, hD9⟩, hS.F ht⟩) hS.2.2 dX12_count_36
  by_cases c_2 : what = 1
  · refine lv_tableIn (tgt := 37) hx hb dX12_count_3 (by rw [c_2]; decide) (by rw [c_2]; decide) (off := 34) (by rw [c_2]; rfl) (by decide) ?_
    refine lv_aload_n hx hb dX12_count_37 rfl (lv_at hl 1 rfl) ?_
    refine va_get (D := E.1) (ci := 12) (v := .int (nI dl)) (C := RX12) (T := TX12) (N := 59) hx hb hts inX12 hown hK hP 0 rfl rfl 41 (by decide) fl289 (fun _ h9 => h9) rfl dX12_count_38 ?_
    have hP9 := hP.sub (ws' := [(h0, .inr (12, mG q (nI ln) i_size i_sort i_what i_at i_end i_worth i_faultKind i_faultPlace i_got (nI wk9) (nI dl) i_isPlanned i_bestDone i_bestCost)), (q 47, .inl (E.2.1 0, 4, .inl a_crewPort)), (q 11, .inl (E.2.1 0, 7, .inl a_ruleMany)), (q 13, .inl (E.2.1 0, 7, .inl a_boxMany)), (q 19, .inl (E.2.1 0, 10, .inl a_ports))]) [0, 1, 2, 3, 4] rfl
    have hD9 := hD.sub (ws' := [(h0, .inr (12, mG q (nI ln) i_size i_sort i_what i_at i_end i_worth i_faultKind i_faultPlace i_got (nI wk9) (nI dl) i_isPlanned i_bestDone i_bestCost)), (q 47, .inl (E.2.1 0, 4, .inl a_crewPort)), (q 11, .inl (E.2.1 0, 7, .inl a_ruleMany)), (q 13, .inl (E.2.1 0, 7, .inl a_boxMany)), (q 19, .inl (E.2.1 0, 10, .inl a_ports))]) [0, 1, 2, 3, 4] (by decide) rfl
    exact W.iret (v := (nI dl)) hx hb hr (fun t ht hW => ⟨⟨(nI dl), (), rfl, trivial, by rw [ht]; exact hP9, hD9⟩, hS.F ht⟩) hS.2.2 dX12_count_41
  by_cases c_3 : what = 2
  · refine lv_tableIn (tgt := 42) hx hb dX12_count_3 (by rw [c_3]; decide) (by rw [c_3]; decide) (off := 39) (by rw [c_3]; rfl) (by decide) ?_
    refine lv_iconst (v := 0) hx hb dX12_count_42 (by decide) ?_
    refine lv_istore_n (lv' := [(3, .int 0), (2, .int 0), (0, .ref h0), (1, .int what)]) hx hb dX12_count_43 rfl hl (by decide) rfl (fun ls hl => ?_)
    refine lv_iload_n hx hb dX12_count_44 rfl (lv_at hl 0 rfl) ?_
    refine lv_iconst (v := 4) hx hb dX12_count_45 (by decide) ?_
    refine lv_icmp_ge (tgt := 73) hx hb dX12_count_46 (by decide) (fun c9 => absurd c9 (by decide)) (fun _ => ?_)
    refine lv_iload_n hx hb dX12_count_49 rfl (lv_at hl 1 rfl) ?_
    refine lv_aload_n hx hb dX12_count_50 rfl (lv_at hl 2 rfl) ?_
    refine va_get (D := E.1) (ci := 12) (v := .ref (q 47)) (C := RX12) (T := TX12) (N := 59) hx hb hts inX12 hown hK hP 0 rfl rfl 47 (by decide) fl121 (fun _ h9 => h9) rfl dX12_count_51 ?_
    refine lv_iload_n hx hb dX12_count_54 rfl (lv_at hl 0 rfl) ?_
    refine va_iald hx hb hK hP 1 0 rfl rfl (show vp_in 0 4 from by unfold vp_in; decide) dX12_count_55 ?_
    refine lv_topi (fun x_4 ex_4 => ?_)
    have hv_5 : inR x_4 (-1) 9 = true := by rw [ex_4]; exact hI_crewPort _ (vin_cl (show vp_in 0 4 from by unfold vp_in; decide))
    refine lv_iconst (v := (-1)) hx hb dX12_count_56 (by decide) ?_
    refine lv_icmp_eq (tgt := 64) hx hb dX12_count_57 (by decide) (fun c_6 => ?_) (fun c_6 => ?_)
    · refine lv_iconst (v := 0) hx hb dX12_count_64 (by decide) ?_
      refine lv_iadd hx hb dX12_count_65 ?_
      refine lv_topi (fun x_7 ex_7 => ?_)
      obtain rfl : x_7 = 0 := ex_7.trans (by decide +kernel)
      refine lv_istore_n (lv' := [(2, .int 0), (3, .int 0), (0, .ref h0), (1, .int what)]) hx hb dX12_count_66 rfl hl (by decide) rfl (fun ls hl => ?_)
      refine lv_iinc (v := 1) (lv' := [(3, .int 1), (2, .int 0), (0, .ref h0), (1, .int what)]) hx hb dX12_count_67 hl (k := 1) rfl (by decide) (by decide) rfl (fun ls hl => ?_)
      refine lv_goto (tgt := 44) hx hb dX12_count_70 (by decide) ?_
      refine lv_iload_n hx hb dX12_count_44 rfl (lv_at hl 0 rfl) ?_
      refine lv_iconst (v := 4) hx hb dX12_count_45 (by decide) ?_
      refine lv_icmp_ge (tgt := 73) hx hb dX12_count_46 (by decide) (fun c9 => absurd c9 (by decide)) (fun _ => ?_)
      refine lv_iload_n hx hb dX12_count_49 rfl (lv_at hl 1 rfl) ?_
      refine lv_aload_n hx hb dX12_count_50 rfl (lv_at hl 2 rfl) ?_
      refine va_get (D := E.1) (ci := 12) (v := .ref (q 47)) (C := RX12) (T := TX12) (N := 59) hx hb hts inX12 hown hK hP 0 rfl rfl 47 (by decide) fl121 (fun _ h9 => h9) rfl dX12_count_51 ?_
      refine lv_iload_n hx hb dX12_count_54 rfl (lv_at hl 0 rfl) ?_
      refine va_iald hx hb hK hP 1 0 rfl rfl (show vp_in 1 4 from by unfold vp_in; decide) dX12_count_55 ?_
      refine lv_topi (fun x_8 ex_8 => ?_)
      have hv_9 : inR x_8 (-1) 9 = true := by rw [ex_8]; exact hI_crewPort _ (vin_cl (show vp_in 1 4 from by unfold vp_in; decide))
      refine lv_iconst (v := (-1)) hx hb dX12_count_56 (by decide) ?_
      refine lv_icmp_eq (tgt := 64) hx hb dX12_count_57 (by decide) (fun c_10 => ?_) (fun c_10 => ?_)
      · refine lv_iconst (v := 0) hx hb dX12_count_64 (by decide) ?_
        refine lv_iadd hx hb dX12_count_65 ?_
        refine lv_topi (fun x_11 ex_11 => ?_)
        obtain rfl : x_11 = 0 := ex_11.trans (by decide +kernel)
        refine lv_istore_n (lv' := [(2, .int 0), (3, .int 1), (0, .ref h0), (1, .int what)]) hx hb dX12_count_66 rfl hl (by decide) rfl (fun ls hl => ?_)
        refine lv_iinc (v := 2) (lv' := [(3, .int 2), (2, .int 0), (0, .ref h0), (1, .int what)]) hx hb dX12_count_67 hl (k := 1) rfl (by decide) (by decide) rfl (fun ls hl => ?_)
        refine lv_goto (tgt := 44) hx hb dX12_count_70 (by decide) ?_
        refine lv_iload_n hx hb dX12_count_44 rfl (lv_at hl 0 rfl) ?_
        refine lv_iconst (v := 4) hx hb dX12_count_45 (by decide) ?_
        refine lv_icmp_ge (tgt := 73) hx hb dX12_count_46 (by decide) (fun c9 => absurd c9 (by decide)) (fun _ => ?_)
        refine lv_iload_n hx hb dX12_count_49 rfl (lv_at hl 1 rfl) ?_
        refine lv_aload_n hx hb dX12_count_50 rfl (lv_at hl 2 rfl) ?_
        refine va_get (D := E.1) (ci := 12) (v := .ref (q 47)) (C := RX12) (T := TX12) (N := 59) hx hb hts inX12 hown hK hP 0 rfl rfl 47 (by decide) fl121 (fun _ h9 => h9) rfl dX12_count_51 ?_
        refine lv_iload_n hx hb dX12_count_54 rfl (lv_at hl 0 rfl) ?_
        refine va_iald hx hb hK hP 1 0 rfl rfl (show vp_in 2 4 from by unfold vp_in; decide) dX12_count_55 ?_
        refine lv_topi (fun x_12 ex_12 => ?_)
        have hv_13 : inR x_12 (-1) 9 = true := by rw [ex_12]; exact hI_crewPort _ (vin_cl (show vp_in 2 4 from by unfold vp_in; decide))
        refine lv_iconst (v := (-1)) hx hb dX12_count_56 (by decide) ?_
        refine lv_icmp_eq (tgt := 64) hx hb dX12_count_57 (by decide) (fun c_14 => ?_) (fun c_14 => ?_)
        · refine lv_iconst (v := 0) hx hb dX12_count_64 (by decide) ?_
          refine lv_iadd hx hb dX12_count_65 ?_
          refine lv_topi (fun x_15 ex_15 => ?_)
          obtain rfl : x_15 = 0 := ex_15.trans (by decide +kernel)
          refine lv_istore_n (lv' := [(2, .int 0), (3, .int 2), (0, .ref h0), (1, .int what)]) hx hb dX12_count_66 rfl hl (by decide) rfl (fun ls hl => ?_)
          refine lv_iinc (v := 3) (lv' := [(3, .int 3), (2, .int 0), (0, .ref h0), (1, .int what)]) hx hb dX12_count_67 hl (k := 1) rfl (by decide) (by decide) rfl (fun ls hl => ?_)
          refine lv_goto (tgt := 44) hx hb dX12_count_70 (by decide) ?_
          refine lv_iload_n hx hb dX12_count_44 rfl (lv_at hl 0 rfl) ?_
          refine lv_iconst (v := 4) hx hb dX12_count_45 (by decide) ?_
          refine lv_icmp_ge (tgt := 73) hx hb dX12_count_46 (by decide) (fun c9 => absurd c9 (by decide)) (fun _ => ?_)
          refine lv_iload_n hx hb dX12_count_49 rfl (lv_at hl 1 rfl) ?_
          refine lv_aload_n hx hb dX12_count_50 rfl (lv_at hl 2 rfl) ?_
          refine va_get (D := E.1) (ci := 12) (v := .ref (q 47)) (C := RX12) (T := TX12) (N := 59) hx hb hts inX12 hown hK hP 0 rfl rfl 47 (by decide) fl121 (fun _ h9 => h9) rfl dX12_count_51 ?_
          refine lv_iload_n hx hb dX12_count_54 rfl (lv_at hl 0 rfl) ?_
          refine va_iald hx hb hK hP 1 0 rfl rfl (show vp_in 3 4 from by unfold vp_in; decide) dX12_count_55 ?_
          refine lv_topi (fun x_16 ex_16 => ?_)
          have hv_17 : inR x_16 (-1) 9 = true := by rw [ex_16]; exact hI_crewPort _ (vin_cl (show vp_in 3 4 from by unfold vp_in; decide))
          refine lv_iconst (v := (-1)) hx hb dX12_count_56 (by decide) ?_
          refine lv_icmp_eq (tgt := 64) hx hb dX12_count_57 (by decide) (fun c_18 => ?_) (fun c_18 => ?_)
          · refine lv_iconst (v := 0) hx hb dX12_count_64 (by decide) ?_
            refine lv_iadd hx hb dX12_count_65 ?_
            refine lv_topi (fun x_19 ex_19 => ?_)
            obtain rfl : x_19 = 0 := ex_19.trans (by decide +kernel)
            refine lv_istore_n (lv' := [(2, .int 0), (3, .int 3), (0, .ref h0), (1, .int what)]) hx hb dX12_count_66 rfl hl (by decide) rfl (fun ls hl => ?_)
            refine lv_iinc (v := 4) (lv' := [(3, .int 4), (2, .int 0), (0, .ref h0), (1, .int what)]) hx hb dX12_count_67 hl (k := 1) rfl (by decide) (by decide) rfl (fun ls hl => ?_)
            refine lv_goto (tgt := 44) hx hb dX12_count_70 (by decide) ?_
            refine lv_iload_n hx hb dX12_count_44 rfl (lv_at hl 0 rfl) ?_
            refine lv_iconst (v := 4) hx hb dX12_count_45 (by decide) ?_
            refine lv_icmp_ge (tgt := 73) hx hb dX12_count_46 (by decide) (fun _ => ?_) (fun c9 => absurd c9 (by decide))
            refine lv_iload_n hx hb dX12_count_73 rfl (lv_at hl 1 rfl) ?_
            have hP9 := hP.sub (ws' := [(h0, .inr (12, mG q (nI ln) i_size i_sort i_what i_at i_end i_worth i_faultKind i_faultPlace i_got (nI wk9) (nI dl) i_isPlanned i_bestDone i_bestCost)), (q 47, .inl (E.2.1 0, 4, .inl a_crewPort)), (q 11, .inl (E.2.1 0, 7, .inl a_ruleMany)), (q 13, .inl (E.2.1 0, 7, .inl a_boxMany)), (q 19, .inl (E.2.1 0, 10, .inl a_ports))]) [0, 1, 2, 3, 4] rfl
            have hD9 := hD.sub (ws' := [(h0, .inr (12, mG q (nI ln) i_size i_sort i_what i_at i_end i_worth i_faultKind i_faultPlace i_got (nI wk9) (nI dl) i_isPlanned i_bestDone i_bestCost)), (q 47, .inl (E.2.1 0, 4, .inl a_crewPort)), (q 11, .inl (E.2.1 0, 7, .inl a_ruleMany)), (q 13, .inl (E.2.1 0, 7, .inl a_boxMany)), (q 19, .inl (E.2.1 0, 10, .inl a_ports))]) [0, 1, 2, 3, 4] (by decide) rfl
            exact W.iret (v := 0) hx hb hr (fun t ht hW => ⟨⟨0, (), rfl, trivial, by rw [ht]; exact hP9, hD9⟩, hS.F ht⟩) hS.2.2 dX12_count_74
          · refine lv_iconst (v := 1) hx hb dX12_count_60 (by decide) ?_
            refine lv_goto (tgt := 65) hx hb dX12_count_61 (by decide) ?_
            refine lv_iadd hx hb dX12_count_65 ?_
            refine lv_topi (fun x_20 ex_20 => ?_)
            obtain rfl : x_20 = 1 := ex_20.trans (by decide +kernel)
            refine lv_istore_n (lv' := [(2, .int 1), (3, .int 3), (0, .ref h0), (1, .int what)]) hx hb dX12_count_66 rfl hl (by decide) rfl (fun ls hl => ?_)
            refine lv_iinc (v := 4) (lv' := [(3, .int 4), (2, .int 1), (0, .ref h0), (1, .int what)]) hx hb dX12_count_67 hl (k := 1) rfl (by decide) (by decide) rfl (fun ls hl => ?_)
            refine lv_goto (tgt := 44) hx hb dX12_count_70 (by decide) ?_
            refine lv_iload_n hx hb dX12_count_44 rfl (lv_at hl 0 rfl) ?_
            refine lv_iconst (v := 4) hx hb dX12_count_45 (by decide) ?_
            refine lv_icmp_ge (tgt := 73) hx hb dX12_count_46 (by decide) (fun _ => ?_) (fun c9 => absurd c9 (by decide))
            refine lv_iload_n hx hb dX12_count_73 rfl (lv_at hl 1 rfl) ?_
            have hP9 := hP.sub (ws' := [(h0, .inr (12, mG q (nI ln) i_size i_sort i_what i_at i_end i_worth i_faultKind i_faultPlace i_got (nI wk9) (nI dl) i_isPlanned i_bestDone i_bestCost)), (q 47, .inl (E.2.1 0, 4, .inl a_crewPort)), (q 11, .inl (E.2.1 0, 7, .inl a_ruleMany)), (q 13, .inl (E.2.1 0, 7, .inl a_boxMany)), (q 19, .inl (E.2.1 0, 10, .inl a_ports))]) [0, 1, 2, 3, 4] rfl
            have hD9 := hD.sub (ws' := [(h0, .inr (12, mG q (nI ln) i_size i_sort i_what i_at i_end i_worth i_faultKind i_faultPlace i_got (nI wk9) (nI dl) i_isPlanned i_bestDone i_bestCost)), (q 47, .inl (E.2.1 0, 4, .inl a_crewPort)), (q 11, .inl (E.2.1 0, 7, .inl a_ruleMany)), (q 13, .inl (E.2.1 0, 7, .inl a_boxMany)), (q 19, .inl (E.2.1 0, 10, .inl a_ports))]) [0, 1, 2, 3, 4] (by decide) rfl
            exact W.iret (v := 1) hx hb hr (fun t ht hW => ⟨⟨1, (), rfl, trivial, by rw [ht]; exact hP9, hD9⟩, hS.F ht⟩) hS.2.2 dX12_count_74
        · refine lv_iconst (v := 1) hx hb dX12_count_60 (by decide) ?_
          refine lv_goto (tgt := 65) hx hb dX12_count_61 (by decide) ?_
          refine lv_iadd hx hb dX12_count_65 ?_
          refine lv_topi (fun x_21 ex_21 => ?_)
          obtain rfl : x_21 = 1 := ex_21.trans (by decide +kernel)
          refine lv_istore_n (lv' := [(2, .int 1), (3, .int 2), (0, .ref h0), (1, .int what)]) hx hb dX12_count_66 rfl hl (by decide) rfl (fun ls hl => ?_)
          refine lv_iinc (v := 3) (lv' := [(3, .int 3), (2, .int 1), (0, .ref h0), (1, .int what)]) hx hb dX12_count_67 hl (k := 1) rfl (by decide) (by decide) rfl (fun ls hl => ?_)
          refine lv_goto (tgt := 44) hx hb dX12_count_70 (by decide) ?_
          refine lv_iload_n hx hb dX12_count_44 rfl (lv_at hl 0 rfl) ?_
          refine lv_iconst (v := 4) hx hb dX12_count_45 (by decide) ?_
          refine lv_icmp_ge (tgt := 73) hx hb dX12_count_46 (by decide) (fun c9 => absurd c9 (by decide)) (fun _ => ?_)
          refine lv_iload_n hx hb dX12_count_49 rfl (lv_at hl 1 rfl) ?_
          refine lv_aload_n hx hb dX12_count_50 rfl (lv_at hl 2 rfl) ?_
          refine va_get (D := E.1) (ci := 12) (v := .ref (q 47)) (C := RX12) (T := TX12) (N := 59) hx hb hts inX12 hown hK hP 0 rfl rfl 47 (by decide) fl121 (fun _ h9 => h9) rfl dX12_count_51 ?_
          refine lv_iload_n hx hb dX12_count_54 rfl (lv_at hl 0 rfl) ?_
          refine va_iald hx hb hK hP 1 0 rfl rfl (show vp_in 3 4 from by unfold vp_in; decide) dX12_count_55 ?_
          refine lv_topi (fun x_22 ex_22 => ?_)
          have hv_23 : inR x_22 (-1) 9 = true := by rw [ex_22]; exact hI_crewPort _ (vin_cl (show vp_in 3 4 from by unfold vp_in; decide))
          refine lv_iconst (v := (-1)) hx hb dX12_count_56 (by decide) ?_
          refine lv_icmp_eq (tgt := 64) hx hb dX12_count_57 (by decide) (fun c_24 => ?_) (fun c_24 => ?_)
          · refine lv_iconst (v := 0) hx hb dX12_count_64 (by decide) ?_
            refine lv_iadd hx hb dX12_count_65 ?_
            refine lv_topi (fun x_25 ex_25 => ?_)
            obtain rfl : x_25 = 1 := ex_25.trans (by decide +kernel)
            refine lv_istore_n (lv' := [(2, .int 1), (3, .int 3), (0, .ref h0), (1, .int what)]) hx hb dX12_count_66 rfl hl (by decide) rfl (fun ls hl => ?_)
            refine lv_iinc (v := 4) (lv' := [(3, .int 4), (2, .int 1), (0, .ref h0), (1, .int what)]) hx hb dX12_count_67 hl (k := 1) rfl (by decide) (by decide) rfl (fun ls hl => ?_)
            refine lv_goto (tgt := 44) hx hb dX12_count_70 (by decide) ?_
            refine lv_iload_n hx hb dX12_count_44 rfl (lv_at hl 0 rfl) ?_
            refine lv_iconst (v := 4) hx hb dX12_count_45 (by decide) ?_
            refine lv_icmp_ge (tgt := 73) hx hb dX12_count_46 (by decide) (fun _ => ?_) (fun c9 => absurd c9 (by decide))
            refine lv_iload_n hx hb dX12_count_73 rfl (lv_at hl 1 rfl) ?_
            have hP9 := hP.sub (ws' := [(h0, .inr (12, mG q (nI ln) i_size i_sort i_what i_at i_end i_worth i_faultKind i_faultPlace i_got (nI wk9) (nI dl) i_isPlanned i_bestDone i_bestCost)), (q 47, .inl (E.2.1 0, 4, .inl a_crewPort)), (q 11, .inl (E.2.1 0, 7, .inl a_ruleMany)), (q 13, .inl (E.2.1 0, 7, .inl a_boxMany)), (q 19, .inl (E.2.1 0, 10, .inl a_ports))]) [0, 1, 2, 3, 4] rfl
            have hD9 := hD.sub (ws' := [(h0, .inr (12, mG q (nI ln) i_size i_sort i_what i_at i_end i_worth i_faultKind i_faultPlace i_got (nI wk9) (nI dl) i_isPlanned i_bestDone i_bestCost)), (q 47, .inl (E.2.1 0, 4, .inl a_crewPort)), (q 11, .inl (E.2.1 0, 7, .inl a_ruleMany)), (q 13, .inl (E.2.1 0, 7, .inl a_boxMany)), (q 19, .inl (E.2.1 0, 10, .inl a_ports))]) [0, 1, 2, 3, 4] (by decide) rfl
            exact W.iret (v := 1) hx hb hr (fun t ht hW => ⟨⟨1, (), rfl, trivial, by rw [ht]; exact hP9, hD9⟩, hS.F ht⟩) hS.2.2 dX12_count_74
          · refine lv_iconst (v := 1) hx hb dX12_count_60 (by decide) ?_
            refine lv_goto (tgt := 65) hx hb dX12_count_61 (by decide) ?_
            refine lv_iadd hx hb dX12_count_65 ?_
            refine lv_topi (fun x_26 ex_26 => ?_)
            obtain rfl : x_26 = 2 := ex_26.trans (by decide +kernel)
            refine lv_istore_n (lv' := [(2, .int 2), (3, .int 3), (0, .ref h0), (1, .int what)]) hx hb dX12_count_66 rfl hl (by decide) rfl (fun ls hl => ?_)
            refine lv_iinc (v := 4) (lv' := [(3, .int 4), (2, .int 2), (0, .ref h0), (1, .int what)]) hx hb dX12_count_67 hl (k := 1) rfl (by decide) (by decide) rfl (fun ls hl => ?_)
            refine lv_goto (tgt := 44) hx hb dX12_count_70 (by decide) ?_
            refine lv_iload_n hx hb dX12_count_44 rfl (lv_at hl 0 rfl) ?_
            refine lv_iconst (v := 4) hx hb dX12_count_45 (by decide) ?_
            refine lv_icmp_ge (tgt := 73) hx hb dX12_count_46 (by decide) (fun _ => ?_) (fun c9 => absurd c9 (by decide))
            refine lv_iload_n hx hb dX12_count_73 rfl (lv_at hl 1 rfl) ?_
            have hP9 := hP.sub (ws' := [(h0, .inr (12, mG q (nI ln) i_size i_sort i_what i_at i_end i_worth i_faultKind i_faultPlace i_got (nI wk9) (nI dl) i_isPlanned i_bestDone i_bestCost)), (q 47, .inl (E.2.1 0, 4, .inl a_crewPort)), (q 11, .inl (E.2.1 0, 7, .inl a_ruleMany)), (q 13, .inl (E.2.1 0, 7, .inl a_boxMany)), (q 19, .inl (E.2.1 0, 10, .inl a_ports))]) [0, 1, 2, 3, 4] rfl
            have hD9 := hD.sub (ws' := [(h0, .inr (12, mG q (nI ln) i_size i_sort i_what i_at i_end i_worth i_faultKind i_faultPlace i_got (nI wk9) (nI dl) i_isPlanned i_bestDone i_bestCost)), (q 47, .inl (E.2.1 0, 4, .inl a_crewPort)), (q 11, .inl (E.2.1 0, 7, .inl a_ruleMany)), (q 13, .inl (E.2.1 0, 7, .inl a_boxMany)), (q 19, .inl (E.2.1 0, 10, .inl a_ports))]) [0, 1, 2, 3, 4] (by decide) rfl
            exact W.iret (v := 2) hx hb hr (fun t ht hW => ⟨⟨2, (), rfl, trivial, by rw [ht]; exact hP9, hD9⟩, hS.F ht⟩) hS.2.2 dX12_count_74
      · refine lv_iconst (v := 1) hx hb dX12_count_60 (by decide) ?_
        refine lv_goto (tgt := 65) hx hb dX12_count_61 (by decide) ?_
        refine lv_iadd hx hb dX12_count_65 ?_
        refine lv_topi (fun x_27 ex_27 => ?_)
        obtain rfl : x_27 = 1 := ex_27.trans (by decide +kernel)
        refine lv_istore_n (lv' := [(2, .int 1), (3, .int 1), (0, .ref h0), (1, .int what)]) hx hb dX12_count_66 rfl hl (by decide) rfl (fun ls hl => ?_)
        refine lv_iinc (v := 2) (lv' := [(3, .int 2), (2, .int 1), (0, .ref h0), (1, .int what)]) hx hb dX12_count_67 hl (k := 1) rfl (by decide) (by decide) rfl (fun ls hl => ?_)
        refine lv_goto (tgt := 44) hx hb dX12_count_70 (by decide) ?_
        refine lv_iload_n hx hb dX12_count_44 rfl (lv_at hl 0 rfl) ?_
        refine lv_iconst (v := 4) hx hb dX12_count_45 (by decide) ?_
        refine lv_icmp_ge (tgt := 73) hx hb dX12_count_46 (by decide) (fun c9 => absurd c9 (by decide)) (fun _ => ?_)
        refine lv_iload_n hx hb dX12_count_49 rfl (lv_at hl 1 rfl) ?_
        refine lv_aload_n hx hb dX12_count_50 rfl (lv_at hl 2 rfl) ?_
        refine va_get (D := E.1) (ci := 12) (v := .ref (q 47)) (C := RX12) (T := TX12) (N := 59) hx hb hts inX12 hown hK hP 0 rfl rfl 47 (by decide) fl121 (fun _ h9 => h9) rfl dX12_count_51 ?_
        refine lv_iload_n hx hb dX12_count_54 rfl (lv_at hl 0 rfl) ?_
        refine va_iald hx hb hK hP 1 0 rfl rfl (show vp_in 2 4 from by unfold vp_in; decide) dX12_count_55 ?_
        refine lv_topi (fun x_28 ex_28 => ?_)
        have hv_29 : inR x_28 (-1) 9 = true := by rw [ex_28]; exact hI_crewPort _ (vin_cl (show vp_in 2 4 from by unfold vp_in; decide))
        refine lv_iconst (v := (-1)) hx hb dX12_count_56 (by decide) ?_
        refine lv_icmp_eq (tgt := 64) hx hb dX12_count_57 (by decide) (fun c_30 => ?_) (fun c_30 => ?_)
        · refine lv_iconst (v := 0) hx hb dX12_count_64 (by decide) ?_
          refine lv_iadd hx hb dX12_count_65 ?_
          refine lv_topi (fun x_31 ex_31 => ?_)
          obtain rfl : x_31 = 1 := ex_31.trans (by decide +kernel)
          refine lv_istore_n (lv' := [(2, .int 1), (3, .int 2), (0, .ref h0), (1, .int what)]) hx hb dX12_count_66 rfl hl (by decide) rfl (fun ls hl => ?_)
          refine lv_iinc (v := 3) (lv' := [(3, .int 3), (2, .int 1), (0, .ref h0), (1, .int what)]) hx hb dX12_count_67 hl (k := 1) rfl (by decide) (by decide) rfl (fun ls hl => ?_)
          refine lv_goto (tgt := 44) hx hb dX12_count_70 (by decide) ?_
          refine lv_iload_n hx hb dX12_count_44 rfl (lv_at hl 0 rfl) ?_
          refine lv_iconst (v := 4) hx hb dX12_count_45 (by decide) ?_
          refine lv_icmp_ge (tgt := 73) hx hb dX12_count_46 (by decide) (fun c9 => absurd c9 (by decide)) (fun _ => ?_)
          refine lv_iload_n hx hb dX12_count_49 rfl (lv_at hl 1 rfl) ?_
          refine lv_aload_n hx hb dX12_count_50 rfl (lv_at hl 2 rfl) ?_
          refine va_get (D := E.1) (ci := 12) (v := .ref (q 47)) (C := RX12) (T := TX12) (N := 59) hx hb hts inX12 hown hK hP 0 rfl rfl 47 (by decide) fl121 (fun _ h9 => h9) rfl dX12_count_51 ?_
          refine lv_iload_n hx hb dX12_count_54 rfl (lv_at hl 0 rfl) ?_
          refine va_iald hx hb hK hP 1 0 rfl rfl (show vp_in 3 4 from by unfold vp_in; decide) dX12_count_55 ?_
          refine lv_topi (fun x_32 ex_32 => ?_)
          have hv_33 : inR x_32 (-1) 9 = true := by rw [ex_32]; exact hI_crewPort _ (vin_cl (show vp_in 3 4 from by unfold vp_in; decide))
          refine lv_iconst (v := (-1)) hx hb dX12_count_56 (by decide) ?_
          refine lv_icmp_eq (tgt := 64) hx hb dX12_count_57 (by decide) (fun c_34 => ?_) (fun c_34 => ?_)
          · refine lv_iconst (v := 0) hx hb dX12_count_64 (by decide) ?_
            refine lv_iadd hx hb dX12_count_65 ?_
            refine lv_topi (fun x_35 ex_35 => ?_)
            obtain rfl : x_35 = 1 := ex_35.trans (by decide +kernel)
            refine lv_istore_n (lv' := [(2, .int 1), (3, .int 3), (0, .ref h0), (1, .int what)]) hx hb dX12_count_66 rfl hl (by decide) rfl (fun ls hl => ?_)
            refine lv_iinc (v := 4) (lv' := [(3, .int 4), (2, .int 1), (0, .ref h0), (1, .int what)]) hx hb dX12_count_67 hl (k := 1) rfl (by decide) (by decide) rfl (fun ls hl => ?_)
            refine lv_goto (tgt := 44) hx hb dX12_count_70 (by decide) ?_
            refine lv_iload_n hx hb dX12_count_44 rfl (lv_at hl 0 rfl) ?_
            refine lv_iconst (v := 4) hx hb dX12_count_45 (by decide) ?_
            refine lv_icmp_ge (tgt := 73) hx hb dX12_count_46 (by decide) (fun _ => ?_) (fun c9 => absurd c9 (by decide))
            refine lv_iload_n hx hb dX12_count_73 rfl (lv_at hl 1 rfl) ?_
            have hP9 := hP.sub (ws' := [(h0, .inr (12, mG q (nI ln) i_size i_sort i_what i_at i_end i_worth i_faultKind i_faultPlace i_got (nI wk9) (nI dl) i_isPlanned i_bestDone i_bestCost)), (q 47, .inl (E.2.1 0, 4, .inl a_crewPort)), (q 11, .inl (E.2.1 0, 7, .inl a_ruleMany)), (q 13, .inl (E.2.1 0, 7, .inl a_boxMany)), (q 19, .inl (E.2.1 0, 10, .inl a_ports))]) [0, 1, 2, 3, 4] rfl
            have hD9 := hD.sub (ws' := [(h0, .inr (12, mG q (nI ln) i_size i_sort i_what i_at i_end i_worth i_faultKind i_faultPlace i_got (nI wk9) (nI dl) i_isPlanned i_bestDone i_bestCost)), (q 47, .inl (E.2.1 0, 4, .inl a_crewPort)), (q 11, .inl (E.2.1 0, 7, .inl a_ruleMany)), (q 13, .inl (E.2.1 0, 7, .inl a_boxMany)), (q 19, .inl (E.2.1 0, 10, .inl a_ports))]) [0, 1, 2, 3, 4] (by decide) rfl
            exact W.iret (v := 1) hx hb hr (fun t ht hW => ⟨⟨1, (), rfl, trivial, by rw [ht]; exact hP9, hD9⟩, hS.F ht⟩) hS.2.2 dX12_count_74
          · refine lv_iconst (v := 1) hx hb dX12_count_60 (by decide) ?_
            refine lv_goto (tgt := 65) hx hb dX12_count_61 (by decide) ?_
            refine lv_iadd hx hb dX12_count_65 ?_
            refine lv_topi (fun x_36 ex_36 => ?_)
            obtain rfl : x_36 = 2 := ex_36.trans (by decide +kernel)
            refine lv_istore_n (lv' := [(2, .int 2), (3, .int 3), (0, .ref h0), (1, .int what)]) hx hb dX12_count_66 rfl hl (by decide) rfl (fun ls hl => ?_)
            refine lv_iinc (v := 4) (lv' := [(3, .int 4), (2, .int 2), (0, .ref h0), (1, .int what)]) hx hb dX12_count_67 hl (k := 1) rfl (by decide) (by decide) rfl (fun ls hl => ?_)
            refine lv_goto (tgt := 44) hx hb dX12_count_70 (by decide) ?_
            refine lv_iload_n hx hb dX12_count_44 rfl (lv_at hl 0 rfl) ?_
            refine lv_iconst (v := 4) hx hb dX12_count_45 (by decide) ?_
            refine lv_icmp_ge (tgt := 73) hx hb dX12_count_46 (by decide) (fun _ => ?_) (fun c9 => absurd c9 (by decide))
            refine lv_iload_n hx hb dX12_count_73 rfl (lv_at hl 1 rfl) ?_
            have hP9 := hP.sub (ws' := [(h0, .inr (12, mG q (nI ln) i_size i_sort i_what i_at i_end i_worth i_faultKind i_faultPlace i_got (nI wk9) (nI dl) i_isPlanned i_bestDone i_bestCost)), (q 47, .inl (E.2.1 0, 4, .inl a_crewPort)), (q 11, .inl (E.2.1 0, 7, .inl a_ruleMany)), (q 13, .inl (E.2.1 0, 7, .inl a_boxMany)), (q 19, .inl (E.2.1 0, 10, .inl a_ports))]) [0, 1, 2, 3, 4] rfl
            have hD9 := hD.sub (ws' := [(h0, .inr (12, mG q (nI ln) i_size i_sort i_what i_at i_end i_worth i_faultKind i_faultPlace i_got (nI wk9) (nI dl) i_isPlanned i_bestDone i_bestCost)), (q 47, .inl (E.2.1 0, 4, .inl a_crewPort)), (q 11, .inl (E.2.1 0, 7, .inl a_ruleMany)), (q 13, .inl (E.2.1 0, 7, .inl a_boxMany)), (q 19, .inl (E.2.1 0, 10, .inl a_ports))]) [0, 1, 2, 3, 4] (by decide) rfl
            exact W.iret (v := 2) hx hb hr (fun t ht hW => ⟨⟨2, (), rfl, trivial, by rw [ht]; exact hP9, hD9⟩, hS.F ht⟩) hS.2.2 dX12_count_74
        · refine lv_iconst (v := 1) hx hb dX12_count_60 (by decide) ?_
          refine lv_goto (tgt := 65) hx hb dX12_count_61 (by decide) ?_
          refine lv_iadd hx hb dX12_count_65 ?_
          refine lv_topi (fun x_37 ex_37 => ?_)
          obtain rfl : x_37 = 2 := ex_37.trans (by decide +kernel)
          refine lv_istore_n (lv' := [(2, .int 2), (3, .int 2), (0, .ref h0), (1, .int what)]) hx hb dX12_count_66 rfl hl (by decide) rfl (fun ls hl => ?_)
          refine lv_iinc (v := 3) (lv' := [(3, .int 3), (2, .int 2), (0, .ref h0), (1, .int what)]) hx hb dX12_count_67 hl (k := 1) rfl (by decide) (by decide) rfl (fun ls hl => ?_)
          refine lv_goto (tgt := 44) hx hb dX12_count_70 (by decide) ?_
          refine lv_iload_n hx hb dX12_count_44 rfl (lv_at hl 0 rfl) ?_
          refine lv_iconst (v := 4) hx hb dX12_count_45 (by decide) ?_
          refine lv_icmp_ge (tgt := 73) hx hb dX12_count_46 (by decide) (fun c9 => absurd c9 (by decide)) (fun _ => ?_)
          refine lv_iload_n hx hb dX12_count_49 rfl (lv_at hl 1 rfl) ?_
          refine lv_aload_n hx hb dX12_count_50 rfl (lv_at hl 2 rfl) ?_
          refine va_get (D := E.1) (ci := 12) (v := .ref (q 47)) (C := RX12) (T := TX12) (N := 59) hx hb hts inX12 hown hK hP 0 rfl rfl 47 (by decide) fl121 (fun _ h9 => h9) rfl dX12_count_51 ?_
          refine lv_iload_n hx hb dX12_count_54 rfl (lv_at hl 0 rfl) ?_
          refine va_iald hx hb hK hP 1 0 rfl rfl (show vp_in 3 4 from by unfold vp_in; decide) dX12_count_55 ?_
          refine lv_topi (fun x_38 ex_38 => ?_)
          have hv_39 : inR x_38 (-1) 9 = true := by rw [ex_38]; exact hI_crewPort _ (vin_cl (show vp_in 3 4 from by unfold vp_in; decide))
          refine lv_iconst (v := (-1)) hx hb dX12_count_56 (by decide) ?_
          refine lv_icmp_eq (tgt := 64) hx hb dX12_count_57 (by decide) (fun c_40 => ?_) (fun c_40 => ?_)
          · refine lv_iconst (v := 0) hx hb dX12_count_64 (by decide) ?_
            refine lv_iadd hx hb dX12_count_65 ?_
            refine lv_topi (fun x_41 ex_41 => ?_)
            obtain rfl : x_41 = 2 := ex_41.trans (by decide +kernel)
            refine lv_istore_n (lv' := [(2, .int 2), (3, .int 3), (0, .ref h0), (1, .int what)]) hx hb dX12_count_66 rfl hl (by decide) rfl (fun ls hl => ?_)
            refine lv_iinc (v := 4) (lv' := [(3, .int 4), (2, .int 2), (0, .ref h0), (1, .int what)]) hx hb dX12_count_67 hl (k := 1) rfl (by decide) (by decide) rfl (fun ls hl => ?_)
            refine lv_goto (tgt := 44) hx hb dX12_count_70 (by decide) ?_
            refine lv_iload_n hx hb dX12_count_44 rfl (lv_at hl 0 rfl) ?_
            refine lv_iconst (v := 4) hx hb dX12_count_45 (by decide) ?_
            refine lv_icmp_ge (tgt := 73) hx hb dX12_count_46 (by decide) (fun _ => ?_) (fun c9 => absurd c9 (by decide))
            refine lv_iload_n hx hb dX12_count_73 rfl (lv_at hl 1 rfl) ?_
            have hP9 := hP.sub (ws' := [(h0, .inr (12, mG q (nI ln) i_size i_sort i_what i_at i_end i_worth i_faultKind i_faultPlace i_got (nI wk9) (nI dl) i_isPlanned i_bestDone i_bestCost)), (q 47, .inl (E.2.1 0, 4, .inl a_crewPort)), (q 11, .inl (E.2.1 0, 7, .inl a_ruleMany)), (q 13, .inl (E.2.1 0, 7, .inl a_boxMany)), (q 19, .inl (E.2.1 0, 10, .inl a_ports))]) [0, 1, 2, 3, 4] rfl
            have hD9 := hD.sub (ws' := [(h0, .inr (12, mG q (nI ln) i_size i_sort i_what i_at i_end i_worth i_faultKind i_faultPlace i_got (nI wk9) (nI dl) i_isPlanned i_bestDone i_bestCost)), (q 47, .inl (E.2.1 0, 4, .inl a_crewPort)), (q 11, .inl (E.2.1 0, 7, .inl a_ruleMany)), (q 13, .inl (E.2.1 0, 7, .inl a_boxMany)), (q 19, .inl (E.2.1 0, 10, .inl a_ports))]) [0, 1, 2, 3, 4] (by decide) rfl
            exact W.iret (v := 2) hx hb hr (fun t ht hW => ⟨⟨2, (), rfl, trivial, by rw [ht]; exact hP9, hD9⟩, hS.F ht⟩) hS.2.2 dX12_count_74
          · refine lv_iconst (v := 1) hx hb dX12_count_60 (by decide) ?_
            refine lv_goto (tgt := 65) hx hb dX12_count_61 (by decide) ?_
            refine lv_iadd hx hb dX12_count_65 ?_
            refine lv_topi (fun x_42 ex_42 => ?_)
            obtain rfl : x_42 = 3 := ex_42.trans (by decide +kernel)
            refine lv_istore_n (lv' := [(2, .int 3), (3, .int 3), (0, .ref h0), (1, .int what)]) hx hb dX12_count_66 rfl hl (by decide) rfl (fun ls hl => ?_)
            refine lv_iinc (v := 4) (lv' := [(3, .int 4), (2, .int 3), (0, .ref h0), (1, .int what)]) hx hb dX12_count_67 hl (k := 1) rfl (by decide) (by decide) rfl (fun ls hl => ?_)
            refine lv_goto (tgt := 44) hx hb dX12_count_70 (by decide) ?_
            refine lv_iload_n hx hb dX12_count_44 rfl (lv_at hl 0 rfl) ?_
            refine lv_iconst (v := 4) hx hb dX12_count_45 (by decide) ?_
            refine lv_icmp_ge (tgt := 73) hx hb dX12_count_46 (by decide) (fun _ => ?_) (fun c9 => absurd c9 (by decide))
            refine lv_iload_n hx hb dX12_count_73 rfl (lv_at hl 1 rfl) ?_
            have hP9 := hP.sub (ws' := [(h0, .inr (12, mG q (nI ln) i_size i_sort i_what i_at i_end i_worth i_faultKind i_faultPlace i_got (nI wk9) (nI dl) i_isPlanned i_bestDone i_bestCost)), (q 47, .inl (E.2.1 0, 4, .inl a_crewPort)), (q 11, .inl (E.2.1 0, 7, .inl a_ruleMany)), (q 13, .inl (E.2.1 0, 7, .inl a_boxMany)), (q 19, .inl (E.2.1 0, 10, .inl a_ports))]) [0, 1, 2, 3, 4] rfl
            have hD9 := hD.sub (ws' := [(h0, .inr (12, mG q (nI ln) i_size i_sort i_what i_at i_end i_worth i_faultKind i_faultPlace i_got (nI wk9) (nI dl) i_isPlanned i_bestDone i_bestCost)), (q 47, .inl (E.2.1 0, 4, .inl a_crewPort)), (q 11, .inl (E.2.1 0, 7, .inl a_ruleMany)), (q 13, .inl (E.2.1 0, 7, .inl a_boxMany)), (q 19, .inl (E.2.1 0, 10, .inl a_ports))]) [0, 1, 2, 3, 4] (by decide) rfl
            exact W.iret (v := 3) hx hb hr (fun t ht hW => ⟨⟨3, (), rfl, trivial, by rw [ht]; exact hP9, hD9⟩, hS.F ht⟩) hS.2.2 dX12_count_74
    · refine lv_iconst (v := 1) hx hb dX12_count_60 (by decide) ?_
      refine lv_goto (tgt := 65) hx hb dX12_count_61 (by decide) ?_
      refine lv_iadd hx hb dX12_count_65 ?_
      refine lv_topi (fun x_43 ex_43 => ?_)
      obtain rfl : x_43 = 1 := ex_43.trans (by decide +kernel)
      refine lv_istore_n (lv' := [(2, .int 1), (3, .int 0), (0, .ref h0), (1, .int what)]) hx hb dX12_count_66 rfl hl (by decide) rfl (fun ls hl => ?_)
      refine lv_iinc (v := 1) (lv' := [(3, .int 1), (2, .int 1), (0, .ref h0), (1, .int what)]) hx hb dX12_count_67 hl (k := 1) rfl (by decide) (by decide) rfl (fun ls hl => ?_)
      refine lv_goto (tgt := 44) hx hb dX12_count_70 (by decide) ?_
      refine lv_iload_n hx hb dX12_count_44 rfl (lv_at hl 0 rfl) ?_
      refine lv_iconst (v := 4) hx hb dX12_count_45 (by decide) ?_
      refine lv_icmp_ge (tgt := 73) hx hb dX12_count_46 (by decide) (fun c9 => absurd c9 (by decide)) (fun _ => ?_)
      refine lv_iload_n hx hb dX12_count_49 rfl (lv_at hl 1 rfl) ?_
      refine lv_aload_n hx hb dX12_count_50 rfl (lv_at hl 2 rfl) ?_
      refine va_get (D := E.1) (ci := 12) (v := .ref (q 47)) (C := RX12) (T := TX12) (N := 59) hx hb hts inX12 hown hK hP 0 rfl rfl 47 (by decide) fl121 (fun _ h9 => h9) rfl dX12_count_51 ?_
      refine lv_iload_n hx hb dX12_count_54 rfl (lv_at hl 0 rfl) ?_
      refine va_iald hx hb hK hP 1 0 rfl rfl (show vp_in 1 4 from by unfold vp_in; decide) dX12_count_55 ?_
      refine lv_topi (fun x_44 ex_44 => ?_)
      have hv_45 : inR x_44 (-1) 9 = true := by rw [ex_44]; exact hI_crewPort _ (vin_cl (show vp_in 1 4 from by unfold vp_in; decide))
      refine lv_iconst (v := (-1)) hx hb dX12_count_56 (by decide) ?_
      refine lv_icmp_eq (tgt := 64) hx hb dX12_count_57 (by decide) (fun c_46 => ?_) (fun c_46 => ?_)
      · refine lv_iconst (v := 0) hx hb dX12_count_64 (by decide) ?_
        refine lv_iadd hx hb dX12_count_65 ?_
        refine lv_topi (fun x_47 ex_47 => ?_)
        obtain rfl : x_47 = 1 := ex_47.trans (by decide +kernel)
        refine lv_istore_n (lv' := [(2, .int 1), (3, .int 1), (0, .ref h0), (1, .int what)]) hx hb dX12_count_66 rfl hl (by decide) rfl (fun ls hl => ?_)
        refine lv_iinc (v := 2) (lv' := [(3, .int 2), (2, .int 1), (0, .ref h0), (1, .int what)]) hx hb dX12_count_67 hl (k := 1) rfl (by decide) (by decide) rfl (fun ls hl => ?_)
        refine lv_goto (tgt := 44) hx hb dX12_count_70 (by decide) ?_
        refine lv_iload_n hx hb dX12_count_44 rfl (lv_at hl 0 rfl) ?_
        refine lv_iconst (v := 4) hx hb dX12_count_45 (by decide) ?_
        refine lv_icmp_ge (tgt := 73) hx hb dX12_count_46 (by decide) (fun c9 => absurd c9 (by decide)) (fun _ => ?_)
        refine lv_iload_n hx hb dX12_count_49 rfl (lv_at hl 1 rfl) ?_
        refine lv_aload_n hx hb dX12_count_50 rfl (lv_at hl 2 rfl) ?_
        refine va_get (D := E.1) (ci := 12) (v := .ref (q 47)) (C := RX12) (T := TX12) (N := 59) hx hb hts inX12 hown hK hP 0 rfl rfl 47 (by decide) fl121 (fun _ h9 => h9) rfl dX12_count_51 ?_
        refine lv_iload_n hx hb dX12_count_54 rfl (lv_at hl 0 rfl) ?_
        refine va_iald hx hb hK hP 1 0 rfl rfl (show vp_in 2 4 from by unfold vp_in; decide) dX12_count_55 ?_
        refine lv_topi (fun x_48 ex_48 => ?_)
        have hv_49 : inR x_48 (-1) 9 = true := by rw [ex_48]; exact hI_crewPort _ (vin_cl (show vp_in 2 4 from by unfold vp_in; decide))
        refine lv_iconst (v := (-1)) hx hb dX12_count_56 (by decide) ?_
        refine lv_icmp_eq (tgt := 64) hx hb dX12_count_57 (by decide) (fun c_50 => ?_) (fun c_50 => ?_)
        · refine lv_iconst (v := 0) hx hb dX12_count_64 (by decide) ?_
          refine lv_iadd hx hb dX12_count_65 ?_
          refine lv_topi (fun x_51 ex_51 => ?_)
          obtain rfl : x_51 = 1 := ex_51.trans (by decide +kernel)
          refine lv_istore_n (lv' := [(2, .int 1), (3, .int 2), (0, .ref h0), (1, .int what)]) hx hb dX12_count_66 rfl hl (by decide) rfl (fun ls hl => ?_)
          refine lv_iinc (v := 3) (lv' := [(3, .int 3), (2, .int 1), (0, .ref h0), (1, .int what)]) hx hb dX12_count_67 hl (k := 1) rfl (by decide) (by decide) rfl (fun ls hl => ?_)
          refine lv_goto (tgt := 44) hx hb dX12_count_70 (by decide) ?_
          refine lv_iload_n hx hb dX12_count_44 rfl (lv_at hl 0 rfl) ?_
          refine lv_iconst (v := 4) hx hb dX12_count_45 (by decide) ?_
          refine lv_icmp_ge (tgt := 73) hx hb dX12_count_46 (by decide) (fun c9 => absurd c9 (by decide)) (fun _ => ?_)
          refine lv_iload_n hx hb dX12_count_49 rfl (lv_at hl 1 rfl) ?_
          refine lv_aload_n hx hb dX12_count_50 rfl (lv_at hl 2 rfl) ?_
          refine va_get (D := E.1) (ci := 12) (v := .ref (q 47)) (C := RX12) (T := TX12) (N := 59) hx hb hts inX12 hown hK hP 0 rfl rfl 47 (by decide) fl121 (fun _ h9 => h9) rfl dX12_count_51 ?_
          refine lv_iload_n hx hb dX12_count_54 rfl (lv_at hl 0 rfl) ?_
          refine va_iald hx hb hK hP 1 0 rfl rfl (show vp_in 3 4 from by unfold vp_in; decide) dX12_count_55 ?_
          refine lv_topi (fun x_52 ex_52 => ?_)
          have hv_53 : inR x_52 (-1) 9 = true := by rw [ex_52]; exact hI_crewPort _ (vin_cl (show vp_in 3 4 from by unfold vp_in; decide))
          refine lv_iconst (v := (-1)) hx hb dX12_count_56 (by decide) ?_
          refine lv_icmp_eq (tgt := 64) hx hb dX12_count_57 (by decide) (fun c_54 => ?_) (fun c_54 => ?_)
          · refine lv_iconst (v := 0) hx hb dX12_count_64 (by decide) ?_
            refine lv_iadd hx hb dX12_count_65 ?_
            refine lv_topi (fun x_55 ex_55 => ?_)
            obtain rfl : x_55 = 1 := ex_55.trans (by decide +kernel)
            refine lv_istore_n (lv' := [(2, .int 1), (3, .int 3), (0, .ref h0), (1, .int what)]) hx hb dX12_count_66 rfl hl (by decide) rfl (fun ls hl => ?_)
            refine lv_iinc (v := 4) (lv' := [(3, .int 4), (2, .int 1), (0, .ref h0), (1, .int what)]) hx hb dX12_count_67 hl (k := 1) rfl (by decide) (by decide) rfl (fun ls hl => ?_)
            refine lv_goto (tgt := 44) hx hb dX12_count_70 (by decide) ?_
            refine lv_iload_n hx hb dX12_count_44 rfl (lv_at hl 0 rfl) ?_
            refine lv_iconst (v := 4) hx hb dX12_count_45 (by decide) ?_
            refine lv_icmp_ge (tgt := 73) hx hb dX12_count_46 (by decide) (fun _ => ?_) (fun c9 => absurd c9 (by decide))
            refine lv_iload_n hx hb dX12_count_73 rfl (lv_at hl 1 rfl) ?_
            have hP9 := hP.sub (ws' := [(h0, .inr (12, mG q (nI ln) i_size i_sort i_what i_at i_end i_worth i_faultKind i_faultPlace i_got (nI wk9) (nI dl) i_isPlanned i_bestDone i_bestCost)), (q 47, .inl (E.2.1 0, 4, .inl a_crewPort)), (q 11, .inl (E.2.1 0, 7, .inl a_ruleMany)), (q 13, .inl (E.2.1 0, 7, .inl a_boxMany)), (q 19, .inl (E.2.1 0, 10, .inl a_ports))]) [0, 1, 2, 3, 4] rfl
            have hD9 := hD.sub (ws' := [(h0, .inr (12, mG q (nI ln) i_size i_sort i_what i_at i_end i_worth i_faultKind i_faultPlace i_got (nI wk9) (nI dl) i_isPlanned i_bestDone i_bestCost)), (q 47, .inl (E.2.1 0, 4, .inl a_crewPort)), (q 11, .inl (E.2.1 0, 7, .inl a_ruleMany)), (q 13, .inl (E.2.1 0, 7, .inl a_boxMany)), (q 19, .inl (E.2.1 0, 10, .inl a_ports))]) [0, 1, 2, 3, 4] (by decide) rfl
            exact W.iret (v := 1) hx hb hr (fun t ht hW => ⟨⟨1, (), rfl, trivial, by rw [ht]; exact hP9, hD9⟩, hS.F ht⟩) hS.2.2 dX12_count_74
          · refine lv_iconst (v := 1) hx hb dX12_count_60 (by decide) ?_
            refine lv_goto (tgt := 65) hx hb dX12_count_61 (by decide) ?_
            refine lv_iadd hx hb dX12_count_65 ?_
            refine lv_topi (fun x_56 ex_56 => ?_)
            obtain rfl : x_56 = 2 := ex_56.trans (by decide +kernel)
            refine lv_istore_n (lv' := [(2, .int 2), (3, .int 3), (0, .ref h0), (1, .int what)]) hx hb dX12_count_66 rfl hl (by decide) rfl (fun ls hl => ?_)
            refine lv_iinc (v := 4) (lv' := [(3, .int 4), (2, .int 2), (0, .ref h0), (1, .int what)]) hx hb dX12_count_67 hl (k := 1) rfl (by decide) (by decide) rfl (fun ls hl => ?_)
            refine lv_goto (tgt := 44) hx hb dX12_count_70 (by decide) ?_
            refine lv_iload_n hx hb dX12_count_44 rfl (lv_at hl 0 rfl) ?_
            refine lv_iconst (v := 4) hx hb dX12_count_45 (by decide) ?_
            refine lv_icmp_ge (tgt := 73) hx hb dX12_count_46 (by decide) (fun _ => ?_) (fun c9 => absurd c9 (by decide))
            refine lv_iload_n hx hb dX12_count_73 rfl (lv_at hl 1 rfl) ?_
            have hP9 := hP.sub (ws' := [(h0, .inr (12, mG q (nI ln) i_size i_sort i_what i_at i_end i_worth i_faultKind i_faultPlace i_got (nI wk9) (nI dl) i_isPlanned i_bestDone i_bestCost)), (q 47, .inl (E.2.1 0, 4, .inl a_crewPort)), (q 11, .inl (E.2.1 0, 7, .inl a_ruleMany)), (q 13, .inl (E.2.1 0, 7, .inl a_boxMany)), (q 19, .inl (E.2.1 0, 10, .inl a_ports))]) [0, 1, 2, 3, 4] rfl
            have hD9 := hD.sub (ws' := [(h0, .inr (12, mG q (nI ln) i_size i_sort i_what i_at i_end i_worth i_faultKind i_faultPlace i_got (nI wk9) (nI dl) i_isPlanned i_bestDone i_bestCost)), (q 47, .inl (E.2.1 0, 4, .inl a_crewPort)), (q 11, .inl (E.2.1 0, 7, .inl a_ruleMany)), (q 13, .inl (E.2.1 0, 7, .inl a_boxMany)), (q 19, .inl (E.2.1 0, 10, .inl a_ports))]) [0, 1, 2, 3, 4] (by decide) rfl
            exact W.iret (v := 2) hx hb hr (fun t ht hW => ⟨⟨2, (), rfl, trivial, by rw [ht]; exact hP9, hD9⟩, hS.F ht⟩) hS.2.2 dX12_count_74
        · refine lv_iconst (v := 1) hx hb dX12_count_60 (by decide) ?_
          refine lv_goto (tgt := 65) hx hb dX12_count_61 (by decide) ?_
          refine lv_iadd hx hb dX12_count_65 ?_
          refine lv_topi (fun x_57 ex_57 => ?_)
          obtain rfl : x_57 = 2 := ex_57.trans (by decide +kernel)
          refine lv_istore_n (lv' := [(2, .int 2), (3, .int 2), (0, .ref h0), (1, .int what)]) hx hb dX12_count_66 rfl hl (by decide) rfl (fun ls hl => ?_)
          refine lv_iinc (v := 3) (lv' := [(3, .int 3), (2, .int 2), (0, .ref h0), (1, .int what)]) hx hb dX12_count_67 hl (k := 1) rfl (by decide) (by decide) rfl (fun ls hl => ?_)
          refine lv_goto (tgt := 44) hx hb dX12_count_70 (by decide) ?_
          refine lv_iload_n hx hb dX12_count_44 rfl (lv_at hl 0 rfl) ?_
          refine lv_iconst (v := 4) hx hb dX12_count_45 (by decide) ?_
          refine lv_icmp_ge (tgt := 73) hx hb dX12_count_46 (by decide) (fun c9 => absurd c9 (by decide)) (fun _ => ?_)
          refine lv_iload_n hx hb dX12_count_49 rfl (lv_at hl 1 rfl) ?_
          refine lv_aload_n hx hb dX12_count_50 rfl (lv_at hl 2 rfl) ?_
          refine va_get (D := E.1) (ci := 12) (v := .ref (q 47)) (C := RX12) (T := TX12) (N := 59) hx hb hts inX12 hown hK hP 0 rfl rfl 47 (by decide) fl121 (fun _ h9 => h9) rfl dX12_count_51 ?_
          refine lv_iload_n hx hb dX12_count_54 rfl (lv_at hl 0 rfl) ?_
          refine va_iald hx hb hK hP 1 0 rfl rfl (show vp_in 3 4 from by unfold vp_in; decide) dX12_count_55 ?_
          refine lv_topi (fun x_58 ex_58 => ?_)
          have hv_59 : inR x_58 (-1) 9 = true := by rw [ex_58]; exact hI_crewPort _ (vin_cl (show vp_in 3 4 from by unfold vp_in; decide))
          refine lv_iconst (v := (-1)) hx hb dX12_count_56 (by decide) ?_
          refine lv_icmp_eq (tgt := 64) hx hb dX12_count_57 (by decide) (fun c_60 => ?_) (fun c_60 => ?_)
          · refine lv_iconst (v := 0) hx hb dX12_count_64 (by decide) ?_
            refine lv_iadd hx hb dX12_count_65 ?_
            refine lv_topi (fun x_61 ex_61 => ?_)
            obtain rfl : x_61 = 2 := ex_61.trans (by decide +kernel)
            refine lv_istore_n (lv' := [(2, .int 2), (3, .int 3), (0, .ref h0), (1, .int what)]) hx hb dX12_count_66 rfl hl (by decide) rfl (fun ls hl => ?_)
            refine lv_iinc (v := 4) (lv' := [(3, .int 4), (2, .int 2), (0, .ref h0), (1, .int what)]) hx hb dX12_count_67 hl (k := 1) rfl (by decide) (by decide) rfl (fun ls hl => ?_)
            refine lv_goto (tgt := 44) hx hb dX12_count_70 (by decide) ?_
            refine lv_iload_n hx hb dX12_count_44 rfl (lv_at hl 0 rfl) ?_
            refine lv_iconst (v := 4) hx hb dX12_count_45 (by decide) ?_
            refine lv_icmp_ge (tgt := 73) hx hb dX12_count_46 (by decide) (fun _ => ?_) (fun c9 => absurd c9 (by decide))
            refine lv_iload_n hx hb dX12_count_73 rfl (lv_at hl 1 rfl) ?_
            have hP9 := hP.sub (ws' := [(h0, .inr (12, mG q (nI ln) i_size i_sort i_what i_at i_end i_worth i_faultKind i_faultPlace i_got (nI wk9) (nI dl) i_isPlanned i_bestDone i_bestCost)), (q 47, .inl (E.2.1 0, 4, .inl a_crewPort)), (q 11, .inl (E.2.1 0, 7, .inl a_ruleMany)), (q 13, .inl (E.2.1 0, 7, .inl a_boxMany)), (q 19, .inl (E.2.1 0, 10, .inl a_ports))]) [0, 1, 2, 3, 4] rfl
            have hD9 := hD.sub (ws' := [(h0, .inr (12, mG q (nI ln) i_size i_sort i_what i_at i_end i_worth i_faultKind i_faultPlace i_got (nI wk9) (nI dl) i_isPlanned i_bestDone i_bestCost)), (q 47, .inl (E.2.1 0, 4, .inl a_crewPort)), (q 11, .inl (E.2.1 0, 7, .inl a_ruleMany)), (q 13, .inl (E.2.1 0, 7, .inl a_boxMany)), (q 19, .inl (E.2.1 0, 10, .inl a_ports))]) [0, 1, 2, 3, 4] (by decide) rfl
            exact W.iret (v := 2) hx hb hr (fun t ht hW => ⟨⟨2, (), rfl, trivial, by rw [ht]; exact hP9, hD9⟩, hS.F ht⟩) hS.2.2 dX12_count_74
          · refine lv_iconst (v := 1) hx hb dX12_count_60 (by decide) ?_
            refine lv_goto (tgt := 65) hx hb dX12_count_61 (by decide) ?_
            refine lv_iadd hx hb dX12_count_65 ?_
            refine lv_topi (fun x_62 ex_62 => ?_)
            obtain rfl : x_62 = 3 := ex_62.trans (by decide +kernel)
            refine lv_istore_n (lv' := [(2, .int 3), (3, .int 3), (0, .ref h0), (1, .int what)]) hx hb dX12_count_66 rfl hl (by decide) rfl (fun ls hl => ?_)
            refine lv_iinc (v := 4) (lv' := [(3, .int 4), (2, .int 3), (0, .ref h0), (1, .int what)]) hx hb dX12_count_67 hl (k := 1) rfl (by decide) (by decide) rfl (fun ls hl => ?_)
            refine lv_goto (tgt := 44) hx hb dX12_count_70 (by decide) ?_
            refine lv_iload_n hx hb dX12_count_44 rfl (lv_at hl 0 rfl) ?_
            refine lv_iconst (v := 4) hx hb dX12_count_45 (by decide) ?_
            refine lv_icmp_ge (tgt := 73) hx hb dX12_count_46 (by decide) (fun _ => ?_) (fun c9 => absurd c9 (by decide))
            refine lv_iload_n hx hb dX12_count_73 rfl (lv_at hl 1 rfl) ?_
            have hP9 := hP.sub (ws' := [(h0, .inr (12, mG q (nI ln) i_size i_sort i_what i_at i_end i_worth i_faultKind i_faultPlace i_got (nI wk9) (nI dl) i_isPlanned i_bestDone i_bestCost)), (q 47, .inl (E.2.1 0, 4, .inl a_crewPort)), (q 11, .inl (E.2.1 0, 7, .inl a_ruleMany)), (q 13, .inl (E.2.1 0, 7, .inl a_boxMany)), (q 19, .inl (E.2.1 0, 10, .inl a_ports))]) [0, 1, 2, 3, 4] rfl
            have hD9 := hD.sub (ws' := [(h0, .inr (12, mG q (nI ln) i_size i_sort i_what i_at i_end i_worth i_faultKind i_faultPlace i_got (nI wk9) (nI dl) i_isPlanned i_bestDone i_bestCost)), (q 47, .inl (E.2.1 0, 4, .inl a_crewPort)), (q 11, .inl (E.2.1 0, 7, .inl a_ruleMany)), (q 13, .inl (E.2.1 0, 7, .inl a_boxMany)), (q 19, .inl (E.2.1 0, 10, .inl a_ports))]) [0, 1, 2, 3, 4] (by decide) rfl
            exact W.iret (v := 3) hx hb hr (fun t ht hW => ⟨⟨3, (), rfl, trivial, by rw [ht]; exact hP9, hD9⟩, hS.F ht⟩) hS.2.2 dX12_count_74
      · refine lv_iconst (v := 1) hx hb dX12_count_60 (by decide) ?_
        refine lv_goto (tgt := 65) hx hb dX12_count_61 (by decide) ?_
        refine lv_iadd hx hb dX12_count_65 ?_
        refine lv_topi (fun x_63 ex_63 => ?_)
        obtain rfl : x_63 = 2 := ex_63.trans (by decide +kernel)
        refine lv_istore_n (lv' := [(2, .int 2), (3, .int 1), (0, .ref h0), (1, .int what)]) hx hb dX12_count_66 rfl hl (by decide) rfl (fun ls hl => ?_)
        refine lv_iinc (v := 2) (lv' := [(3, .int 2), (2, .int 2), (0, .ref h0), (1, .int what)]) hx hb dX12_count_67 hl (k := 1) rfl (by decide) (by decide) rfl (fun ls hl => ?_)
        refine lv_goto (tgt := 44) hx hb dX12_count_70 (by decide) ?_
        refine lv_iload_n hx hb dX12_count_44 rfl (lv_at hl 0 rfl) ?_
        refine lv_iconst (v := 4) hx hb dX12_count_45 (by decide) ?_
        refine lv_icmp_ge (tgt := 73) hx hb dX12_count_46 (by decide) (fun c9 => absurd c9 (by decide)) (fun _ => ?_)
        refine lv_iload_n hx hb dX12_count_49 rfl (lv_at hl 1 rfl) ?_
        refine lv_aload_n hx hb dX12_count_50 rfl (lv_at hl 2 rfl) ?_
        refine va_get (D := E.1) (ci := 12) (v := .ref (q 47)) (C := RX12) (T := TX12) (N := 59) hx hb hts inX12 hown hK hP 0 rfl rfl 47 (by decide) fl121 (fun _ h9 => h9) rfl dX12_count_51 ?_
        refine lv_iload_n hx hb dX12_count_54 rfl (lv_at hl 0 rfl) ?_
        refine va_iald hx hb hK hP 1 0 rfl rfl (show vp_in 2 4 from by unfold vp_in; decide) dX12_count_55 ?_
        refine lv_topi (fun x_64 ex_64 => ?_)
        have hv_65 : inR x_64 (-1) 9 = true := by rw [ex_64]; exact hI_crewPort _ (vin_cl (show vp_in 2 4 from by unfold vp_in; decide))
        refine lv_iconst (v := (-1)) hx hb dX12_count_56 (by decide) ?_
        refine lv_icmp_eq (tgt := 64) hx hb dX12_count_57 (by decide) (fun c_66 => ?_) (fun c_66 => ?_)
        · refine lv_iconst (v := 0) hx hb dX12_count_64 (by decide) ?_
          refine lv_iadd hx hb dX12_count_65 ?_
          refine lv_topi (fun x_67 ex_67 => ?_)
          obtain rfl : x_67 = 2 := ex_67.trans (by decide +kernel)
          refine lv_istore_n (lv' := [(2, .int 2), (3, .int 2), (0, .ref h0), (1, .int what)]) hx hb dX12_count_66 rfl hl (by decide) rfl (fun ls hl => ?_)
          refine lv_iinc (v := 3) (lv' := [(3, .int 3), (2, .int 2), (0, .ref h0), (1, .int what)]) hx hb dX12_count_67 hl (k := 1) rfl (by decide) (by decide) rfl (fun ls hl => ?_)
          refine lv_goto (tgt := 44) hx hb dX12_count_70 (by decide) ?_
          refine lv_iload_n hx hb dX12_count_44 rfl (lv_at hl 0 rfl) ?_
          refine lv_iconst (v := 4) hx hb dX12_count_45 (by decide) ?_
          refine lv_icmp_ge (tgt := 73) hx hb dX12_count_46 (by decide) (fun c9 => absurd c9 (by decide)) (fun _ => ?_)
          refine lv_iload_n hx hb dX12_count_49 rfl (lv_at hl 1 rfl) ?_
          refine lv_aload_n hx hb dX12_count_50 rfl (lv_at hl 2 rfl) ?_
          refine va_get (D := E.1) (ci := 12) (v := .ref (q 47)) (C := RX12) (T := TX12) (N := 59) hx hb hts inX12 hown hK hP 0 rfl rfl 47 (by decide) fl121 (fun _ h9 => h9) rfl dX12_count_51 ?_
          refine lv_iload_n hx hb dX12_count_54 rfl (lv_at hl 0 rfl) ?_
          refine va_iald hx hb hK hP 1 0 rfl rfl (show vp_in 3 4 from by unfold vp_in; decide) dX12_count_55 ?_
          refine lv_topi (fun x_68 ex_68 => ?_)
          have hv_69 : inR x_68 (-1) 9 = true := by rw [ex_68]; exact hI_crewPort _ (vin_cl (show vp_in 3 4 from by unfold vp_in; decide))
          refine lv_iconst (v := (-1)) hx hb dX12_count_56 (by decide) ?_
          refine lv_icmp_eq (tgt := 64) hx hb dX12_count_57 (by decide) (fun c_70 => ?_) (fun c_70 => ?_)
          · refine lv_iconst (v := 0) hx hb dX12_count_64 (by decide) ?_
            refine lv_iadd hx hb dX12_count_65 ?_
            refine lv_topi (fun x_71 ex_71 => ?_)
            obtain rfl : x_71 = 2 := ex_71.trans (by decide +kernel)
            refine lv_istore_n (lv' := [(2, .int 2), (3, .int 3), (0, .ref h0), (1, .int what)]) hx hb dX12_count_66 rfl hl (by decide) rfl (fun ls hl => ?_)
            refine lv_iinc (v := 4) (lv' := [(3, .int 4), (2, .int 2), (0, .ref h0), (1, .int what)]) hx hb dX12_count_67 hl (k := 1) rfl (by decide) (by decide) rfl (fun ls hl => ?_)
            refine lv_goto (tgt := 44) hx hb dX12_count_70 (by decide) ?_
            refine lv_iload_n hx hb dX12_count_44 rfl (lv_at hl 0 rfl) ?_
            refine lv_iconst (v := 4) hx hb dX12_count_45 (by decide) ?_
            refine lv_icmp_ge (tgt := 73) hx hb dX12_count_46 (by decide) (fun _ => ?_) (fun c9 => absurd c9 (by decide))
            refine lv_iload_n hx hb dX12_count_73 rfl (lv_at hl 1 rfl) ?_
            have hP9 := hP.sub (ws' := [(h0, .inr (12, mG q (nI ln) i_size i_sort i_what i_at i_end i_worth i_faultKind i_faultPlace i_got (nI wk9) (nI dl) i_isPlanned i_bestDone i_bestCost)), (q 47, .inl (E.2.1 0, 4, .inl a_crewPort)), (q 11, .inl (E.2.1 0, 7, .inl a_ruleMany)), (q 13, .inl (E.2.1 0, 7, .inl a_boxMany)), (q 19, .inl (E.2.1 0, 10, .inl a_ports))]) [0, 1, 2, 3, 4] rfl
            have hD9 := hD.sub (ws' := [(h0, .inr (12, mG q (nI ln) i_size i_sort i_what i_at i_end i_worth i_faultKind i_faultPlace i_got (nI wk9) (nI dl) i_isPlanned i_bestDone i_bestCost)), (q 47, .inl (E.2.1 0, 4, .inl a_crewPort)), (q 11, .inl (E.2.1 0, 7, .inl a_ruleMany)), (q 13, .inl (E.2.1 0, 7, .inl a_boxMany)), (q 19, .inl (E.2.1 0, 10, .inl a_ports))]) [0, 1, 2, 3, 4] (by decide) rfl
            exact W.iret (v := 2) hx hb hr (fun t ht hW => ⟨⟨2, (), rfl, trivial, by rw [ht]; exact hP9, hD9⟩, hS.F ht⟩) hS.2.2 dX12_count_74
          · refine lv_iconst (v := 1) hx hb dX12_count_60 (by decide) ?_
            refine lv_goto (tgt := 65) hx hb dX12_count_61 (by decide) ?_
            refine lv_iadd hx hb dX12_count_65 ?_
            refine lv_topi (fun x_72 ex_72 => ?_)
            obtain rfl : x_72 = 3 := ex_72.trans (by decide +kernel)
            refine lv_istore_n (lv' := [(2, .int 3), (3, .int 3), (0, .ref h0), (1, .int what)]) hx hb dX12_count_66 rfl hl (by decide) rfl (fun ls hl => ?_)
            refine lv_iinc (v := 4) (lv' := [(3, .int 4), (2, .int 3), (0, .ref h0), (1, .int what)]) hx hb dX12_count_67 hl (k := 1) rfl (by decide) (by decide) rfl (fun ls hl => ?_)
            refine lv_goto (tgt := 44) hx hb dX12_count_70 (by decide) ?_
            refine lv_iload_n hx hb dX12_count_44 rfl (lv_at hl 0 rfl) ?_
            refine lv_iconst (v := 4) hx hb dX12_count_45 (by decide) ?_
            refine lv_icmp_ge (tgt := 73) hx hb dX12_count_46 (by decide) (fun _ => ?_) (fun c9 => absurd c9 (by decide))
            refine lv_iload_n hx hb dX12_count_73 rfl (lv_at hl 1 rfl) ?_
            have hP9 := hP.sub (ws' := [(h0, .inr (12, mG q (nI ln) i_size i_sort i_what i_at i_end i_worth i_faultKind i_faultPlace i_got (nI wk9) (nI dl) i_isPlanned i_bestDone i_bestCost)), (q 47, .inl (E.2.1 0, 4, .inl a_crewPort)), (q 11, .inl (E.2.1 0, 7, .inl a_ruleMany)), (q 13, .inl (E.2.1 0, 7, .inl a_boxMany)), (q 19, .inl (E.2.1 0, 10, .inl a_ports))]) [0, 1, 2, 3, 4] rfl
            have hD9 := hD.sub (ws' := [(h0, .inr (12, mG q (nI ln) i_size i_sort i_what i_at i_end i_worth i_faultKind i_faultPlace i_got (nI wk9) (nI dl) i_isPlanned i_bestDone i_bestCost)), (q 47, .inl (E.2.1 0, 4, .inl a_crewPort)), (q 11, .inl (E.2.1 0, 7, .inl a_ruleMany)), (q 13, .inl (E.2.1 0, 7, .inl a_boxMany)), (q 19, .inl (E.2.1 0, 10, .inl a_ports))]) [0, 1, 2, 3, 4] (by decide) rfl
            exact W.iret (v := 3) hx hb hr (fun t ht hW => ⟨⟨3, (), rfl, trivial, by rw [ht]; exact hP9, hD9⟩, hS.F ht⟩) hS.2.2 dX12_count_74
        · refine lv_iconst (v := 1) hx hb dX12_count_60 (by decide) ?_
          refine lv_goto (tgt := 65) hx hb dX12_count_61 (by decide) ?_
          refine lv_iadd hx hb dX12_count_65 ?_
          refine lv_topi (fun x_73 ex_73 => ?_)
          obtain rfl : x_73 = 3 := ex_73.trans (by decide +kernel)
          refine lv_istore_n (lv' := [(2, .int 3), (3, .int 2), (0, .ref h0), (1, .int what)]) hx hb dX12_count_66 rfl hl (by decide) rfl (fun ls hl => ?_)
          refine lv_iinc (v := 3) (lv' := [(3, .int 3), (2, .int 3), (0, .ref h0), (1, .int what)]) hx hb dX12_count_67 hl (k := 1) rfl (by decide) (by decide) rfl (fun ls hl => ?_)
          refine lv_goto (tgt := 44) hx hb dX12_count_70 (by decide) ?_
          refine lv_iload_n hx hb dX12_count_44 rfl (lv_at hl 0 rfl) ?_
          refine lv_iconst (v := 4) hx hb dX12_count_45 (by decide) ?_
          refine lv_icmp_ge (tgt := 73) hx hb dX12_count_46 (by decide) (fun c9 => absurd c9 (by decide)) (fun _ => ?_)
          refine lv_iload_n hx hb dX12_count_49 rfl (lv_at hl 1 rfl) ?_
          refine lv_aload_n hx hb dX12_count_50 rfl (lv_at hl 2 rfl) ?_
          refine va_get (D := E.1) (ci := 12) (v := .ref (q 47)) (C := RX12) (T := TX12) (N := 59) hx hb hts inX12 hown hK hP 0 rfl rfl 47 (by decide) fl121 (fun _ h9 => h9) rfl dX12_count_51 ?_
          refine lv_iload_n hx hb dX12_count_54 rfl (lv_at hl 0 rfl) ?_
          refine va_iald hx hb hK hP 1 0 rfl rfl (show vp_in 3 4 from by unfold vp_in; decide) dX12_count_55 ?_
          refine lv_topi (fun x_74 ex_74 => ?_)
          have hv_75 : inR x_74 (-1) 9 = true := by rw [ex_74]; exact hI_crewPort _ (vin_cl (show vp_in 3 4 from by unfold vp_in; decide))
          refine lv_iconst (v := (-1)) hx hb dX12_count_56 (by decide) ?_
          refine lv_icmp_eq (tgt := 64) hx hb dX12_count_57 (by decide) (fun c_76 => ?_) (fun c_76 => ?_)
          · refine lv_iconst (v := 0) hx hb dX12_count_64 (by decide) ?_
            refine lv_iadd hx hb dX12_count_65 ?_
            refine lv_topi (fun x_77 ex_77 => ?_)
            obtain rfl : x_77 = 3 := ex_77.trans (by decide +kernel)
            refine lv_istore_n (lv' := [(2, .int 3), (3, .int 3), (0, .ref h0), (1, .int what)]) hx hb dX12_count_66 rfl hl (by decide) rfl (fun ls hl => ?_)
            refine lv_iinc (v := 4) (lv' := [(3, .int 4), (2, .int 3), (0, .ref h0), (1, .int what)]) hx hb dX12_count_67 hl (k := 1) rfl (by decide) (by decide) rfl (fun ls hl => ?_)
            refine lv_goto (tgt := 44) hx hb dX12_count_70 (by decide) ?_
            refine lv_iload_n hx hb dX12_count_44 rfl (lv_at hl 0 rfl) ?_
            refine lv_iconst (v := 4) hx hb dX12_count_45 (by decide) ?_
            refine lv_icmp_ge (tgt := 73) hx hb dX12_count_46 (by decide) (fun _ => ?_) (fun c9 => absurd c9 (by decide))
            refine lv_iload_n hx hb dX12_count_73 rfl (lv_at hl 1 rfl) ?_
            have hP9 := hP.sub (ws' := [(h0, .inr (12, mG q (nI ln) i_size i_sort i_what i_at i_end i_worth i_faultKind i_faultPlace i_got (nI wk9) (nI dl) i_isPlanned i_bestDone i_bestCost)), (q 47, .inl (E.2.1 0, 4, .inl a_crewPort)), (q 11, .inl (E.2.1 0, 7, .inl a_ruleMany)), (q 13, .inl (E.2.1 0, 7, .inl a_boxMany)), (q 19, .inl (E.2.1 0, 10, .inl a_ports))]) [0, 1, 2, 3, 4] rfl
            have hD9 := hD.sub (ws' := [(h0, .inr (12, mG q (nI ln) i_size i_sort i_what i_at i_end i_worth i_faultKind i_faultPlace i_got (nI wk9) (nI dl) i_isPlanned i_bestDone i_bestCost)), (q 47, .inl (E.2.1 0, 4, .inl a_crewPort)), (q 11, .inl (E.2.1 0, 7, .inl a_ruleMany)), (q 13, .inl (E.2.1 0, 7, .inl a_boxMany)), (q 19, .inl (E.2.1 0, 10, .inl a_ports))]) [0, 1, 2, 3, 4] (by decide) rfl
            exact W.iret (v := 3) hx hb hr (fun t ht hW => ⟨⟨3, (), rfl, trivial, by rw [ht]; exact hP9, hD9⟩, hS.F ht⟩) hS.2.2 dX12_count_74
          · refine lv_iconst (v := 1) hx hb dX12_count_60 (by decide) ?_
            refine lv_goto (tgt := 65) hx hb dX12_count_61 (by decide) ?_
            refine lv_iadd hx hb dX12_count_65 ?_
            refine lv_topi (fun x_78 ex_78 => ?_)
            obtain rfl : x_78 = 4 := ex_78.trans (by decide +kernel)
            refine lv_istore_n (lv' := [(2, .int 4), (3, .int 3), (0, .ref h0), (1, .int what)]) hx hb dX12_count_66 rfl hl (by decide) rfl (fun ls hl => ?_)
            refine lv_iinc (v := 4) (lv' := [(3, .int 4), (2, .int 4), (0, .ref h0), (1, .int what)]) hx hb dX12_count_67 hl (k := 1) rfl (by decide) (by decide) rfl (fun ls hl => ?_)
            refine lv_goto (tgt := 44) hx hb dX12_count_70 (by decide) ?_
            refine lv_iload_n hx hb dX12_count_44 rfl (lv_at hl 0 rfl) ?_
            refine lv_iconst (v := 4) hx hb dX12_count_45 (by decide) ?_
            refine lv_icmp_ge (tgt := 73) hx hb dX12_count_46 (by decide) (fun _ => ?_) (fun c9 => absurd c9 (by decide))
            refine lv_iload_n hx hb dX12_count_73 rfl (lv_at hl 1 rfl) ?_
            have hP9 := hP.sub (ws' := [(h0, .inr (12, mG q (nI ln) i_size i_sort i_what i_at i_end i_worth i_faultKind i_faultPlace i_got (nI wk9) (nI dl) i_isPlanned i_bestDone i_bestCost)), (q 47, .inl (E.2.1 0, 4, .inl a_crewPort)), (q 11, .inl (E.2.1 0, 7, .inl a_ruleMany)), (q 13, .inl (E.2.1 0, 7, .inl a_boxMany)), (q 19, .inl (E.2.1 0, 10, .inl a_ports))]) [0, 1, 2, 3, 4] rfl
            have hD9 := hD.sub (ws' := [(h0, .inr (12, mG q (nI ln) i_size i_sort i_what i_at i_end i_worth i_faultKind i_faultPlace i_got (nI wk9) (nI dl) i_isPlanned i_bestDone i_bestCost)), (q 47, .inl (E.2.1 0, 4, .inl a_crewPort)), (q 11, .inl (E.2.1 0, 7, .inl a_ruleMany)), (q 13, .inl (E.2.1 0, 7, .inl a_boxMany)), (q 19, .inl (E.2.1 0, 10, .inl a_ports))]) [0, 1, 2, 3, 4] (by decide) rfl
            exact W.iret (v := 4) hx hb hr (fun t ht hW => ⟨⟨4, (), rfl, trivial, by rw [ht]; exact hP9, hD9⟩, hS.F ht⟩) hS.2.2 dX12_count_74
  by_cases c_79 : what = 3
  · refine lv_tableIn (tgt := 75) hx hb dX12_count_3 (by rw [c_79]; decide) (by rw [c_79]; decide) (off := 72) (by rw [c_79]; rfl) (by decide) ?_
    refine lv_aload_n hx hb dX12_count_75 rfl (lv_at hl 1 rfl) ?_
    refine va_get (D := E.1) (ci := 12) (v := .int (nI ln)) (C := RX12) (T := TX12) (N := 59) hx hb hts inX12 hown hK hP 0 rfl rfl 1 (by decide) fl152 (fun _ h9 => h9) rfl dX12_count_76 ?_
    have hP9 := hP.sub (ws' := [(h0, .inr (12, mG q (nI ln) i_size i_sort i_what i_at i_end i_worth i_faultKind i_faultPlace i_got (nI wk9) (nI dl) i_isPlanned i_bestDone i_bestCost)), (q 47, .inl (E.2.1 0, 4, .inl a_crewPort)), (q 11, .inl (E.2.1 0, 7, .inl a_ruleMany)), (q 13, .inl (E.2.1 0, 7, .inl a_boxMany)), (q 19, .inl (E.2.1 0, 10, .inl a_ports))]) [0, 1, 2, 3, 4] rfl
    have hD9 := hD.sub (ws' := [(h0, .inr (12, mG q (nI ln) i_size i_sort i_what i_at i_end i_worth i_faultKind i_faultPlace i_got (nI wk9) (nI dl) i_isPlanned i_bestDone i_bestCost)), (q 47, .inl (E.2.1 0, 4, .inl a_crewPort)), (q 11, .inl (E.2.1 0, 7, .inl a_ruleMany)), (q 13, .inl (E.2.1 0, 7, .inl a_boxMany)), (q 19, .inl (E.2.1 0, 10, .inl a_ports))]) [0, 1, 2, 3, 4] (by decide) rfl
    exact W.iret (v := (nI ln)) hx hb hr (fun t ht hW => ⟨⟨(nI ln), (), rfl, trivial, by rw [ht]; exact hP9, hD9⟩, hS.F ht⟩) hS.2.2 dX12_count_79
  refine lv_tableOut (tgt := 80) hx hb dX12_count_3 (by have g0 : ¬ what.toInt = 0 := fun h => c_1 (Int32.toInt_inj.mp (h.trans (by decide))); have g1 : ¬ what.toInt = 1 := fun h => c_2 (Int32.toInt_inj.mp (h.trans (by decide))); have g2 : ¬ what.toInt = 2 := fun h => c_3 (Int32.toInt_inj.mp (h.trans (by decide))); have g3 : ¬ what.toInt = 3 := fun h => c_79 (Int32.toInt_inj.mp (h.trans (by decide))); omega) (by decide) ?_
  refine lv_iload_n hx hb dX12_count_80 rfl (lv_at hl 2 rfl) ?_
  refine lv_bipush (v := 10) hx hb dX12_count_81 (by decide) ?_
  refine lv_bipush (v := 15) hx hb dX12_count_83 (by decide) ?_
  have hPc := hP.sub (ws' := []) [] rfl
  have hDc := hD.sub (ws' := []) [] (by decide) rfl
  have hFc := va_free (wc := []) hD hS hA [] rfl
  refine va_calli (va_runS (As := [.int what, .int 10, .int 15]) (rest := []) ⟨hx, hb, hml, hown, hts⟩ (c_X12_in l E what 10 15 s.heap.size ) (va_cwS 3 hts gX12_count_X12_in rfl rfl rfl hdS_X12_in ⟨Nat.le_of_ble_eq_true rfl, Nat.le_of_ble_eq_true rfl⟩) ⟨pcW_blind, (pcW_pre hPc hkn hDc hst hS hFc)⟩ rfl rfl hl.1 rfl (lv_room (Nat.le_of_ble_eq_true rfl)) dX12_count_85 ⟨Nat.le_of_ble_eq_true rfl, Nat.le_of_ble_eq_true rfl⟩) hS (fun q _ h => hFc q h) hFc (fun r_80 u t H1 locs ht hvm hw_81 hB hz1 hk1 hS => ?_)
  obtain ⟨hP1, hD1⟩ := hB
  rw [ht] at hP1
  try dsimp only at hw_81
  obtain ⟨hP, hD⟩ := va_join (wr := [(h0, .inr (12, mG q (nI ln) i_size i_sort i_what i_at i_end i_worth i_faultKind i_faultPlace i_got (nI wk9) (nI dl) i_isPlanned i_bestDone i_bestCost)), (q 47, .inl (E.2.1 0, 4, .inl a_crewPort)), (q 11, .inl (E.2.1 0, 7, .inl a_ruleMany)), (q 13, .inl (E.2.1 0, 7, .inl a_boxMany)), (q 19, .inl (E.2.1 0, 10, .inl a_ports))]) (w1 := []) hP hD [] [0, 1, 2, 3, 4] rfl rfl (by decide) (by decide) hk1 hFc hP1 hD1
  generalize H1 = H at hP hS ⊢
  have hP : va_P E.1 vwCl [(h0, .inr (12, mG q (nI ln) i_size i_sort i_what i_at i_end i_worth i_faultKind i_faultPlace i_got (nI wk9) (nI dl) i_isPlanned i_bestDone i_bestCost)), (q 47, .inl (E.2.1 0, 4, .inl a_crewPort)), (q 11, .inl (E.2.1 0, 7, .inl a_ruleMany)), (q 13, .inl (E.2.1 0, 7, .inl a_boxMany)), (q 19, .inl (E.2.1 0, 10, .inl a_ports))] H := hP
  have hD : va_D A [(h0, .inr (12, mG q (nI ln) i_size i_sort i_what i_at i_end i_worth i_faultKind i_faultPlace i_got (nI wk9) (nI dl) i_isPlanned i_bestDone i_bestCost)), (q 47, .inl (E.2.1 0, 4, .inl a_crewPort)), (q 11, .inl (E.2.1 0, 7, .inl a_ruleMany)), (q 13, .inl (E.2.1 0, 7, .inl a_boxMany)), (q 19, .inl (E.2.1 0, 10, .inl a_ports))] := hD
  refine lv_if_eq (tgt := 101) hx hb dX12_count_88 (by decide) (fun c_82 => ?_) (fun c_82 => ?_)
  · have b_83 : inR what 10 15 = false := bz hw_81 c_82
    refine lv_iload_n hx hb dX12_count_101 rfl (lv_at hl 2 rfl) ?_
    refine lv_bipush (v := 20) hx hb dX12_count_102 (by decide) ?_
    refine lv_bipush (v := 25) hx hb dX12_count_104 (by decide) ?_
    have hPc := hP.sub (ws' := []) [] rfl
    have hDc := hD.sub (ws' := []) [] (by decide) rfl
    have hFc := va_free (wc := []) hD hS hA [] rfl
    refine va_calli (va_runS (As := [.int what, .int 20, .int 25]) (rest := []) ⟨hx, hb, hml, hown, hts⟩ (c_X12_in l E what 20 25 H.size ) (va_cwS 3 hts gX12_count_X12_in rfl rfl rfl hdS_X12_in ⟨Nat.le_of_ble_eq_true rfl, Nat.le_of_ble_eq_true rfl⟩) ⟨pcW_blind, (pcW_pre hPc hkn hDc hst hS hFc)⟩ rfl rfl hl.1 rfl (lv_room (Nat.le_of_ble_eq_true rfl)) dX12_count_106 ⟨Nat.le_of_ble_eq_true rfl, Nat.le_of_ble_eq_true rfl⟩) hS (fun q _ h => hFc q h) hFc (fun r_84 u t H1 locs ht hvm hw_85 hB hz1 hk1 hS => ?_)
    obtain ⟨hP1, hD1⟩ := hB
    rw [ht] at hP1
    try dsimp only at hw_85
    obtain ⟨hP, hD⟩ := va_join (wr := [(h0, .inr (12, mG q (nI ln) i_size i_sort i_what i_at i_end i_worth i_faultKind i_faultPlace i_got (nI wk9) (nI dl) i_isPlanned i_bestDone i_bestCost)), (q 47, .inl (E.2.1 0, 4, .inl a_crewPort)), (q 11, .inl (E.2.1 0, 7, .inl a_ruleMany)), (q 13, .inl (E.2.1 0, 7, .inl a_boxMany)), (q 19, .inl (E.2.1 0, 10, .inl a_ports))]) (w1 := []) hP hD [] [0, 1, 2, 3, 4] rfl rfl (by decide) (by decide) hk1 hFc hP1 hD1
    generalize H1 = H at hP hS ⊢
    have hP : va_P E.1 vwCl [(h0, .inr (12, mG q (nI ln) i_size i_sort i_what i_at i_end i_worth i_faultKind i_faultPlace i_got (nI wk9) (nI dl) i_isPlanned i_bestDone i_bestCost)), (q 47, .inl (E.2.1 0, 4, .inl a_crewPort)), (q 11, .inl (E.2.1 0, 7, .inl a_ruleMany)), (q 13, .inl (E.2.1 0, 7, .inl a_boxMany)), (q 19, .inl (E.2.1 0, 10, .inl a_ports))] H := hP
    have hD : va_D A [(h0, .inr (12, mG q (nI ln) i_size i_sort i_what i_at i_end i_worth i_faultKind i_faultPlace i_got (nI wk9) (nI dl) i_isPlanned i_bestDone i_bestCost)), (q 47, .inl (E.2.1 0, 4, .inl a_crewPort)), (q 11, .inl (E.2.1 0, 7, .inl a_ruleMany)), (q 13, .inl (E.2.1 0, 7, .inl a_boxMany)), (q 19, .inl (E.2.1 0, 10, .inl a_ports))] := hD
    refine lv_if_eq (tgt := 122) hx hb dX12_count_109 (by decide) (fun c_86 => ?_) (fun c_86 => ?_)
    · have b_87 : inR what 20 25 = false := bz hw_85 c_86
      refine lv_iload_n hx hb dX12_count_122 rfl (lv_at hl 2 rfl) ?_
      refine lv_bipush (v := 30) hx hb dX12_count_123 (by decide) ?_
      refine lv_bipush (v := 39) hx hb dX12_count_125 (by decide) ?_
      have hPc := hP.sub (ws' := []) [] rfl
      have hDc := hD.sub (ws' := []) [] (by decide) rfl
      have hFc := va_free (wc := []) hD hS hA [] rfl
      refine va_calli (va_runS (As := [.int what, .int 30, .int 39]) (rest := []) ⟨hx, hb, hml, hown, hts⟩ (c_X12_in l E what 30 39 H.size ) (va_cwS 3 hts gX12_count_X12_in rfl rfl rfl hdS_X12_in ⟨Nat.le_of_ble_eq_true rfl, Nat.le_of_ble_eq_true rfl⟩) ⟨pcW_blind, (pcW_pre hPc hkn hDc hst hS hFc)⟩ rfl rfl hl.1 rfl (lv_room (Nat.le_of_ble_eq_true rfl)) dX12_count_127 ⟨Nat.le_of_ble_eq_true rfl, Nat.le_of_ble_eq_true rfl⟩) hS (fun q _ h => hFc q h) hFc (fun r_88 u t H1 locs ht hvm hw_89 hB hz1 hk1 hS => ?_)
      obtain ⟨hP1, hD1⟩ := hB
      rw [ht] at hP1
      try dsimp only at hw_89
      obtain ⟨hP, hD⟩ := va_join (wr := [(h0, .inr (12, mG q (nI ln) i_size i_sort i_what i_at i_end i_worth i_faultKind i_faultPlace i_got (nI wk9) (nI dl) i_isPlanned i_bestDone i_bestCost)), (q 47, .inl (E.2.1 0, 4, .inl a_crewPort)), (q 11, .inl (E.2.1 0, 7, .inl a_ruleMany)), (q 13, .inl (E.2.1 0, 7, .inl a_boxMany)), (q 19, .inl (E.2.1 0, 10, .inl a_ports))]) (w1 := []) hP hD [] [0, 1, 2, 3, 4] rfl rfl (by decide) (by decide) hk1 hFc hP1 hD1
      generalize H1 = H at hP hS ⊢
      have hP : va_P E.1 vwCl [(h0, .inr (12, mG q (nI ln) i_size i_sort i_what i_at i_end i_worth i_faultKind i_faultPlace i_got (nI wk9) (nI dl) i_isPlanned i_bestDone i_bestCost)), (q 47, .inl (E.2.1 0, 4, .inl a_crewPort)), (q 11, .inl (E.2.1 0, 7, .inl a_ruleMany)), (q 13, .inl (E.2.1 0, 7, .inl a_boxMany)), (q 19, .inl (E.2.1 0, 10, .inl a_ports))] H := hP
      have hD : va_D A [(h0, .inr (12, mG q (nI ln) i_size i_sort i_what i_at i_end i_worth i_faultKind i_faultPlace i_got (nI wk9) (nI dl) i_isPlanned i_bestDone i_bestCost)), (q 47, .inl (E.2.1 0, 4, .inl a_crewPort)), (q 11, .inl (E.2.1 0, 7, .inl a_ruleMany)), (q 13, .inl (E.2.1 0, 7, .inl a_boxMany)), (q 19, .inl (E.2.1 0, 10, .inl a_ports))] := hD
      refine lv_if_eq (tgt := 145) hx hb dX12_count_130 (by decide) (fun c_90 => ?_) (fun c_90 => ?_)
      · have b_91 : inR what 30 39 = false := bz hw_89 c_90
        refine lv_iconst (v := (-1)) hx hb dX12_count_145 (by decide) ?_
        have hP9 := hP.sub (ws' := [(h0, .inr (12, mG q (nI ln) i_size i_sort i_what i_at i_end i_worth i_faultKind i_faultPlace i_got (nI wk9) (nI dl) i_isPlanned i_bestDone i_bestCost)), (q 47, .inl (E.2.1 0, 4, .inl a_crewPort)), (q 11, .inl (E.2.1 0, 7, .inl a_ruleMany)), (q 13, .inl (E.2.1 0, 7, .inl a_boxMany)), (q 19, .inl (E.2.1 0, 10, .inl a_ports))]) [0, 1, 2, 3, 4] rfl
        have hD9 := hD.sub (ws' := [(h0, .inr (12, mG q (nI ln) i_size i_sort i_what i_at i_end i_worth i_faultKind i_faultPlace i_got (nI wk9) (nI dl) i_isPlanned i_bestDone i_bestCost)), (q 47, .inl (E.2.1 0, 4, .inl a_crewPort)), (q 11, .inl (E.2.1 0, 7, .inl a_ruleMany)), (q 13, .inl (E.2.1 0, 7, .inl a_boxMany)), (q 19, .inl (E.2.1 0, 10, .inl a_ports))]) [0, 1, 2, 3, 4] (by decide) rfl
        exact W.iret (v := (-1)) hx hb hr (fun t ht hW => ⟨⟨(-1), (), rfl, trivial, by rw [ht]; exact hP9, hD9⟩, hS.F ht⟩) hS.2.2 dX12_count_146
      · have b_92 : inR what 30 39 = true := bn hw_89 c_90
        refine lv_aload_n hx hb dX12_count_133 rfl (lv_at hl 1 rfl) ?_
        refine va_get (D := E.1) (ci := 12) (v := .ref (q 19)) (C := RX12) (T := TX12) (N := 59) hx hb hts inX12 hown hK hP 0 rfl rfl 19 (by decide) fl42 (fun _ h9 => h9) rfl dX12_count_134 ?_
        refine lv_iload_n hx hb dX12_count_137 rfl (lv_at hl 2 rfl) ?_
        refine lv_bipush (v := 30) hx hb dX12_count_138 (by decide) ?_
        refine lv_isub hx hb dX12_count_140 ?_
        refine lv_topi (fun x_93 ex_93 => ?_)
        have hi_94 : vp_in x_93 10 := by rw [ex_93]; exact (ixS b_92 (a := 30) rfl (b := 39) (by decide) (by decide) (by decide) (by decide)).1
        refine va_iald hx hb hK hP 4 0 rfl rfl hi_94 dX12_count_141 ?_
        refine lv_topi (fun x_95 ex_95 => ?_)
        have hv_96 : isPl x_95 = true := by rw [ex_95]; exact hI_ports _ (vin_cl hi_94)
        refine lv_goto (tgt := 146) hx hb dX12_count_142 (by decide) ?_
        have hP9 := hP.sub (ws' := [(h0, .inr (12, mG q (nI ln) i_size i_sort i_what i_at i_end i_worth i_faultKind i_faultPlace i_got (nI wk9) (nI dl) i_isPlanned i_bestDone i_bestCost)), (q 47, .inl (E.2.1 0, 4, .inl a_crewPort)), (q 11, .inl (E.2.1 0, 7, .inl a_ruleMany)), (q 13, .inl (E.2.1 0, 7, .inl a_boxMany)), (q 19, .inl (E.2.1 0, 10, .inl a_ports))]) [0, 1, 2, 3, 4] rfl
        have hD9 := hD.sub (ws' := [(h0, .inr (12, mG q (nI ln) i_size i_sort i_what i_at i_end i_worth i_faultKind i_faultPlace i_got (nI wk9) (nI dl) i_isPlanned i_bestDone i_bestCost)), (q 47, .inl (E.2.1 0, 4, .inl a_crewPort)), (q 11, .inl (E.2.1 0, 7, .inl a_ruleMany)), (q 13, .inl (E.2.1 0, 7, .inl a_boxMany)), (q 19, .inl (E.2.1 0, 10, .inl a_ports))]) [0, 1, 2, 3, 4] (by decide) rfl
        exact W.iret (v := x_95) hx hb hr (fun t ht hW => ⟨⟨x_95, (), rfl, trivial, by rw [ht]; exact hP9, hD9⟩, hS.F ht⟩) hS.2.2 dX12_count_146
    · have b_97 : inR what 20 25 = true := bn hw_85 c_86
      refine lv_aload_n hx hb dX12_count_112 rfl (lv_at hl 1 rfl) ?_
      refine va_get (D := E.1) (ci := 12) (v := .ref (q 13)) (C := RX12) (T := TX12) (N := 59) hx hb hts inX12 hown hK hP 0 rfl rfl 13 (by decide) fl27 (fun _ h9 => h9) rfl dX12_count_113 ?_
      refine lv_iload_n hx hb dX12_count_116 rfl (lv_at hl 2 rfl) ?_
      refine lv_bipush (v := 20) hx hb dX12_count_117 (by decide) ?_
      refine lv_isub hx hb dX12_count_119 ?_
      refine lv_topi (fun x_98 ex_98 => ?_)
      have hi_99 : vp_in x_98 7 := by rw [ex_98]; exact (ixS b_97 (a := 20) rfl (b := 25) (by decide) (by decide) (by decide) (by decide)).1
      refine va_iald hx hb hK hP 3 0 rfl rfl hi_99 dX12_count_120 ?_
      refine lv_topi (fun x_100 ex_100 => ?_)
      have hv_101 : inR x_100 0 12 = true := by rw [ex_100]; exact hI_boxMany _ (vin_cl hi_99)
      have hP9 := hP.sub (ws' := [(h0, .inr (12, mG q (nI ln) i_size i_sort i_what i_at i_end i_worth i_faultKind i_faultPlace i_got (nI wk9) (nI dl) i_isPlanned i_bestDone i_bestCost)), (q 47, .inl (E.2.1 0, 4, .inl a_crewPort)), (q 11, .inl (E.2.1 0, 7, .inl a_ruleMany)), (q 13, .inl (E.2.1 0, 7, .inl a_boxMany)), (q 19, .inl (E.2.1 0, 10, .inl a_ports))]) [0, 1, 2, 3, 4] rfl
      have hD9 := hD.sub (ws' := [(h0, .inr (12, mG q (nI ln) i_size i_sort i_what i_at i_end i_worth i_faultKind i_faultPlace i_got (nI wk9) (nI dl) i_isPlanned i_bestDone i_bestCost)), (q 47, .inl (E.2.1 0, 4, .inl a_crewPort)), (q 11, .inl (E.2.1 0, 7, .inl a_ruleMany)), (q 13, .inl (E.2.1 0, 7, .inl a_boxMany)), (q 19, .inl (E.2.1 0, 10, .inl a_ports))]) [0, 1, 2, 3, 4] (by decide) rfl
      exact W.iret (v := x_100) hx hb hr (fun t ht hW => ⟨⟨x_100, (), rfl, trivial, by rw [ht]; exact hP9, hD9⟩, hS.F ht⟩) hS.2.2 dX12_count_121
  · have b_102 : inR what 10 15 = true := bn hw_81 c_82
    refine lv_aload_n hx hb dX12_count_91 rfl (lv_at hl 1 rfl) ?_
    refine va_get (D := E.1) (ci := 12) (v := .ref (q 11)) (C := RX12) (T := TX12) (N := 59) hx hb hts inX12 hown hK hP 0 rfl rfl 11 (by decide) fl21 (fun _ h9 => h9) rfl dX12_count_92 ?_
    refine lv_iload_n hx hb dX12_count_95 rfl (lv_at hl 2 rfl) ?_
    refine lv_bipush (v := 10) hx hb dX12_count_96 (by decide) ?_
    refine lv_isub hx hb dX12_count_98 ?_
    refine lv_topi (fun x_103 ex_103 => ?_)
    have hi_104 : vp_in x_103 7 := by rw [ex_103]; exact (ixS b_102 (a := 10) rfl (b := 15) (by decide) (by decide) (by decide) (by decide)).1
    refine va_iald hx hb hK hP 2 0 rfl rfl hi_104 dX12_count_99 ?_
    refine lv_topi (fun x_105 ex_105 => ?_)
    have hv_106 : inR x_105 0 12 = true := by rw [ex_105]; exact hI_ruleMany _ (vin_cl hi_104)
    have hP9 := hP.sub (ws' := [(h0, .inr (12, mG q (nI ln) i_size i_sort i_what i_at i_end i_worth i_faultKind i_faultPlace i_got (nI wk9) (nI dl) i_isPlanned i_bestDone i_bestCost)), (q 47, .inl (E.2.1 0, 4, .inl a_crewPort)), (q 11, .inl (E.2.1 0, 7, .inl a_ruleMany)), (q 13, .inl (E.2.1 0, 7, .inl a_boxMany)), (q 19, .inl (E.2.1 0, 10, .inl a_ports))]) [0, 1, 2, 3, 4] rfl
    have hD9 := hD.sub (ws' := [(h0, .inr (12, mG q (nI ln) i_size i_sort i_what i_at i_end i_worth i_faultKind i_faultPlace i_got (nI wk9) (nI dl) i_isPlanned i_bestDone i_bestCost)), (q 47, .inl (E.2.1 0, 4, .inl a_crewPort)), (q 11, .inl (E.2.1 0, 7, .inl a_ruleMany)), (q 13, .inl (E.2.1 0, 7, .inl a_boxMany)), (q 19, .inl (E.2.1 0, 10, .inl a_ports))]) [0, 1, 2, 3, 4] (by decide) rfl
    exact W.iret (v := x_105) hx hb hr (fun t ht hW => ⟨⟨x_105, (), rfl, trivial, by rw [ht]; exact hP9, hD9⟩, hS.F ht⟩) hS.2.2 dX12_count_100
