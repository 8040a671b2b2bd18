set_option maxHeartbeats 4000000 in
set_option maxRecDepth 100000 in
theorem lp_m_lasts {p : Program} {l : Launch} {e : Env} {R : Room} {s : State} {m : MethodId} {args : Array Value} {below : List Frame} {meth : Method} {c : Code} {cells slots : Nat} {Q : State → Prop} {A : Nat → Prop} (E : vE) (h0 : Nat) (qf : Nat) (fs : List Value) (wr : va_W) (hx : p.tables.exec = Jvm.exec) (hb : c.code = cX12_init) (hml : c.maxLocals = 2) (hown : s.vm.findClass RX12 = some m.cls) (hts : ∀ w ∈ wsX12_init, w.before args s = true) (hkn : kn E s) (hst : st E A s s.heap) (hA : ∀ q : Nat, s.heap.size ≤ q → A q) (hfs : fs[22]? = some (.ref qf)) (kk : ∀ (f : Nat → Int32) (H : Heap) (locs : List Loc) (ls : Array Slot), (∀ k, k < 24 → f k = 10000) → va_P E.1 vwCl ((h0, .inr (12, fs)) :: (qf, .inl (E.2.1 0, 24, .inl f)) :: wr) H → va_D A ((h0, .inr (12, fs)) :: (qf, .inl (E.2.1 0, 24, .inl f)) :: wr) → va_S A s.heap H locs → lv_has ls 2 [(0, .ref h0)] → W p l e R s m args below meth c H locs cells slots Q (F0 m 389 ls [])) : ∀ (n0 : Nat) (i : Nat) (f : Nat → Int32) (H : Heap) (locs : List Loc) (ls : Array Slot), 24 - i < n0 → (i ≤ 24) → (∀ k, k < i → f k = 10000) → va_P E.1 vwCl ((h0, .inr (12, fs)) :: (qf, .inl (E.2.1 0, 24, .inl f)) :: wr) H → va_D A ((h0, .inr (12, fs)) :: (qf, .inl (E.2.1 0, 24, .inl f)) :: wr) → va_S A s.heap H locs → lv_has ls 2 [(0, .ref h0), (1, .int (nI i))] → W p l e R s m args below meth c H locs cells slots Q (F0 m 368 ls []) := by
  have hK := hkn.1
  have hAO := hkn.2.2.1
  have fl7 := hts (.fieldLink RX12 7 "BoatsHomeModel" "tape" "[B") (by first | exact List.mem_of_getElem? (i := 5) rfl | decide +kernel)
  have fl13 := hts (.fieldLink RX12 13 "BoatsHomeModel" "faultPlace" "I") (by first | exact List.mem_of_getElem? (i := 6) rfl | decide +kernel)
  have fl17 := hts (.fieldLink RX12 17 "BoatsHomeModel" "rules" "[I") (by first | exact List.mem_of_getElem? (i := 8) rfl | decide +kernel)
  have fl21 := hts (.fieldLink RX12 21 "BoatsHomeModel" "ruleMany" "[I") (by first | exact List.mem_of_getElem? (i := 9) rfl | decide +kernel)
  have fl24 := hts (.fieldLink RX12 24 "BoatsHomeModel" "boxes" "[I") (by first | exact List.mem_of_getElem? (i := 10) rfl | decide +kernel)
  have fl27 := hts (.fieldLink RX12 27 "BoatsHomeModel" "boxMany" "[I") (by first | exact List.mem_of_getElem? (i := 11) rfl | decide +kernel)
  have fl30 := hts (.fieldLink RX12 30 "BoatsHomeModel" "minCrew" "[I") (by first | exact List.mem_of_getElem? (i := 12) rfl | decide +kernel)
  have fl33 := hts (.fieldLink RX12 33 "BoatsHomeModel" "maxForce" "[I") (by first | exact List.mem_of_getElem? (i := 13) rfl | decide +kernel)
  have fl36 := hts (.fieldLink RX12 36 "BoatsHomeModel" "windTo" "[I") (by first | exact List.mem_of_getElem? (i := 14) rfl | decide +kernel)
  have fl39 := hts (.fieldLink RX12 39 "BoatsHomeModel" "windForce" "[I") (by first | exact List.mem_of_getElem? (i := 15) rfl | decide +kernel)
  have fl42 := hts (.fieldLink RX12 42 "BoatsHomeModel" "ports" "[I") (by first | exact List.mem_of_getElem? (i := 16) rfl | decide +kernel)
  have fl45 := hts (.fieldLink RX12 45 "BoatsHomeModel" "speeds" "[I") (by first | exact List.mem_of_getElem? (i := 17) rfl | decide +kernel)
  have fl48 := hts (.fieldLink RX12 48 "BoatsHomeModel" "litres" "[I") (by first | exact List.mem_of_getElem? (i := 18) rfl | decide +kernel)
  have fl51 := hts (.fieldLink RX12 51 "BoatsHomeModel" "lasts" "[I") (by first | exact List.mem_of_getElem? (i := 19) rfl | decide +kernel)
  have fl54 := hts (.fieldLink RX12 54 "BoatsHomeModel" "begun" "[Z") (by first | exact List.mem_of_getElem? (i := 21) rfl | decide +kernel)
  have fl58 := hts (.fieldLink RX12 58 "BoatsHomeModel" "state" "[I") (by first | exact List.mem_of_getElem? (i := 22) rfl | decide +kernel)
  have fl61 := hts (.fieldLink RX12 61 "BoatsHomeModel" "home" "[I") (by first | exact List.mem_of_getElem? (i := 23) rfl | decide +kernel)
  have fl64 := hts (.fieldLink RX12 64 "BoatsHomeModel" "firstDay" "[I") (by first | exact List.mem_of_getElem? (i := 24) rfl | decide +kernel)
  have fl67 := hts (.fieldLink RX12 67 "BoatsHomeModel" "crewMany" "[I") (by first | exact List.mem_of_getElem? (i := 25) rfl | decide +kernel)
  have fl70 := hts (.fieldLink RX12 70 "BoatsHomeModel" "way" "[I") (by first | exact List.mem_of_getElem? (i := 26) rfl | decide +kernel)
  have fl73 := hts (.fieldLink RX12 73 "BoatsHomeModel" "wayAt" "[I") (by first | exact List.mem_of_getElem? (i := 27) rfl | decide +kernel)
  have fl76 := hts (.fieldLink RX12 76 "BoatsHomeModel" "wayEnd" "[I") (by first | exact List.mem_of_getElem? (i := 28) rfl | decide +kernel)
  have fl79 := hts (.fieldLink RX12 79 "BoatsHomeModel" "watches" "[I") (by first | exact List.mem_of_getElem? (i := 29) rfl | decide +kernel)
  have fl82 := hts (.fieldLink RX12 82 "BoatsHomeModel" "here" "[I") (by first | exact List.mem_of_getElem? (i := 30) rfl | decide +kernel)
  have fl85 := hts (.fieldLink RX12 85 "BoatsHomeModel" "gone" "[I") (by first | exact List.mem_of_getElem? (i := 31) rfl | decide +kernel)
  have fl88 := hts (.fieldLink RX12 88 "BoatsHomeModel" "turned" "[Z") (by first | exact List.mem_of_getElem? (i := 32) rfl | decide +kernel)
  have fl91 := hts (.fieldLink RX12 91 "BoatsHomeModel" "cells" "[I") (by first | exact List.mem_of_getElem? (i := 33) rfl | decide +kernel)
  have fl94 := hts (.fieldLink RX12 94 "BoatsHomeModel" "waited" "[I") (by first | exact List.mem_of_getElem? (i := 34) rfl | decide +kernel)
  have fl97 := hts (.fieldLink RX12 97 "BoatsHomeModel" "bare" "[I") (by first | exact List.mem_of_getElem? (i := 35) rfl | decide +kernel)
  have fl100 := hts (.fieldLink RX12 100 "BoatsHomeModel" "dry" "[I") (by first | exact List.mem_of_getElem? (i := 36) rfl | decide +kernel)
  have fl103 := hts (.fieldLink RX12 103 "BoatsHomeModel" "firstBare" "[I") (by first | exact List.mem_of_getElem? (i := 37) rfl | decide +kernel)
  have fl106 := hts (.fieldLink RX12 106 "BoatsHomeModel" "dFrom" "[I") (by first | exact List.mem_of_getElem? (i := 38) rfl | decide +kernel)
  have fl109 := hts (.fieldLink RX12 109 "BoatsHomeModel" "dTo" "[I") (by first | exact List.mem_of_getElem? (i := 39) rfl | decide +kernel)
  have fl112 := hts (.fieldLink RX12 112 "BoatsHomeModel" "dDays" "[I") (by first | exact List.mem_of_getElem? (i := 40) rfl | decide +kernel)
  have fl115 := hts (.fieldLink RX12 115 "BoatsHomeModel" "dFirst" "[I") (by first | exact List.mem_of_getElem? (i := 41) rfl | decide +kernel)
  have fl118 := hts (.fieldLink RX12 118 "BoatsHomeModel" "dLast" "[I") (by first | exact List.mem_of_getElem? (i := 42) rfl | decide +kernel)
  have fl121 := hts (.fieldLink RX12 121 "BoatsHomeModel" "crewPort" "[I") (by first | exact List.mem_of_getElem? (i := 43) rfl | decide +kernel)
  have fl124 := hts (.fieldLink RX12 124 "BoatsHomeModel" "crewDay" "[I") (by first | exact List.mem_of_getElem? (i := 44) rfl | decide +kernel)
  have fl127 := hts (.fieldLink RX12 127 "BoatsHomeModel" "flights" "[I") (by first | exact List.mem_of_getElem? (i := 45) rfl | decide +kernel)
  have fl130 := hts (.fieldLink RX12 130 "BoatsHomeModel" "least" "[I") (by first | exact List.mem_of_getElem? (i := 46) rfl | decide +kernel)
  have fl133 := hts (.fieldLink RX12 133 "BoatsHomeModel" "order" "[I") (by first | exact List.mem_of_getElem? (i := 47) rfl | decide +kernel)
  have fl136 := hts (.fieldLink RX12 136 "BoatsHomeModel" "given" "[I") (by first | exact List.mem_of_getElem? (i := 48) rfl | decide +kernel)
  have fl139 := hts (.fieldLink RX12 139 "BoatsHomeModel" "bestGiven" "[I") (by first | exact List.mem_of_getElem? (i := 49) rfl | decide +kernel)
  have fl142 := hts (.fieldLink RX12 142 "BoatsHomeModel" "sets" "[I") (by first | exact List.mem_of_getElem? (i := 50) rfl | decide +kernel)
  have fl145 := hts (.fieldLink RX12 145 "BoatsHomeModel" "beginsOn" "[I") (by first | exact List.mem_of_getElem? (i := 51) rfl | decide +kernel)
  have inX12 : ∀ w ∈ u_ws RX12 TX12 59, w ∈ wsX12_init := by first | exact fun w h9 => (List.mem_cons_of_mem _ (List.mem_append_right _ h9)) | decide +kernel
  intro n0
  induction n0 with
  | zero =>
    intro i f H locs ls hn0
    exact absurd hn0 (Nat.not_lt_zero _)
  | succ n0 ih =>
    intro i f H locs ls hn0 hi hf hP hD hS hl
    refine lv_iload_n hx hb dX12_init_368 rfl (lv_at hl 1 rfl) ?_
    refine lv_bipush (v := 24) hx hb dX12_init_369 (by decide) ?_
    refine lv_icmp_ge (tgt := 389) hx hb dX12_init_371 (by decide) (fun c_1 => ?_) (fun c_1 => ?_)
    · have hge : 24 ≤ i := by
        rcases Nat.lt_or_ge i 24 with q | q
        · exact absurd c_1 (nI_ge (b := 24) q (by decide))
        · exact q
      exact kk f _ _ _ (fun k hk => hf k (by omega)) hP hD hS (lv_sub hl [0] rfl)
    · have hlt : i < 24 := by
        rcases Nat.lt_or_ge i 24 with q | q
        · exact q
        · exact absurd (show (24 : Int32) ≤ nI i from nI_le (a := 24) q (by omega)) c_1
      refine lv_aload_n hx hb dX12_init_374 rfl (lv_at hl 0 rfl) ?_
      refine va_get (D := E.1) (ci := 12) (v := .ref qf) (C := RX12) (T := TX12) (N := 59) hx hb hts inX12 hown hK hP 0 rfl rfl 22 (by decide) fl51 (fun _ h9 => h9) hfs dX12_init_375 ?_
      refine lv_iload_n hx hb dX12_init_378 rfl (lv_at hl 1 rfl) ?_
      refine lv_sipush (v := 10000) hx hb dX12_init_379 (by decide) ?_
      refine va_iast hx hb hK hP hD hS 1 0 rfl rfl (vp_in_nI hlt (by decide)) dX12_init_382 (fun H locs hP hD hS => ?_)
      have hP : va_P E.1 vwCl ((h0, .inr (12, fs)) :: (qf, .inl (E.2.1 0, 24, .inl (upd f (nI i).toNatClampNeg 10000))) :: wr) H := hP
      have hD : va_D A ((h0, .inr (12, fs)) :: (qf, .inl (E.2.1 0, 24, .inl (upd f (nI i).toNatClampNeg 10000))) :: wr) := hD
      obtain ⟨f_2, ef_2⟩ : ∃ g : Nat → Int32, g = upd f (nI i).toNatClampNeg 10000 := ⟨_, rfl⟩
      rw [← ef_2] at hP hD
      refine lv_iinc (v := (nI (i + 1))) (lv' := [(1, .int (nI (i + 1))), (0, .ref h0)]) hx hb dX12_init_383 hl (k := 1) rfl (show nI i + 1 = nI (i + 1) from nI_1 i) (by decide) rfl (fun ls hl => ?_)
      refine lv_goto (tgt := 368) hx hb dX12_init_386 (by decide) ?_
      exact ih (i + 1) f_2 _ _ _ (by omega) (by omega) (by
            intro k hk
            rw [ef_2, nI_clamp (by omega)]
            by_cases hki : k = i
            · rw [hki, pk_us]
            · rw [pk_un hki]; exact hf k (by omega)) hP hD hS (lv_sub hl [1, 0] rfl)
set_option maxHeartbeats 4000000 in
set_option maxRecDepth 100000 in
theorem lp_m_force {p : Program} {l : Launch} {e : Env} {R : Room} {s : State} {m : MethodId} {args : Array Value} {below : List Frame} {meth : Method} {c : Code} {cells slots : Nat} {Q : State → Prop} {A : Nat → Prop} (E : vE) (h0 : Nat) (qf : Nat) (fs : List Value) (wr : va_W) (hx : p.tables.exec = Jvm.exec) (hb : c.code = cX12_init) (hml : c.maxLocals = 2) (hown : s.vm.findClass RX12 = some m.cls) (hts : ∀ w ∈ wsX12_init, w.before args s = true) (hkn : kn E s) (hst : st E A s s.heap) (hA : ∀ q : Nat, s.heap.size ≤ q → A q) (hfs : fs[15]? = some (.ref qf)) (kk : ∀ (f : Nat → Int32) (H : Heap) (locs : List Loc) (ls : Array Slot), (∀ k, k < 7 → f k = 9) → va_P E.1 vwCl ((h0, .inr (12, fs)) :: (qf, .inl (E.2.1 0, 7, .inl f)) :: wr) H → va_D A ((h0, .inr (12, fs)) :: (qf, .inl (E.2.1 0, 7, .inl f)) :: wr) → va_S A s.heap H locs → lv_has ls 2 [(0, .ref h0)] → W p l e R s m args below meth c H locs cells slots Q (F0 m 411 ls [])) : ∀ (n0 : Nat) (i : Nat) (f : Nat → Int32) (H : Heap) (locs : List Loc) (ls : Array Slot), 7 - i < n0 → (i ≤ 7) → (∀ k, k < i → f k = 9) → va_P E.1 vwCl ((h0, .inr (12, fs)) :: (qf, .inl (E.2.1 0, 7, .inl f)) :: wr) H → va_D A ((h0, .inr (12, fs)) :: (qf, .inl (E.2.1 0, 7, .inl f)) :: wr) → va_S A s.heap H locs → lv_has ls 2 [(0, .ref h0), (1, .int (nI i))] → W p l e R s m args below meth c H locs cells slots Q (F0 m 391 ls []) := by
  have hK := hkn.1
  have hAO := hkn.2.2.1
  have fl7 := hts (.fieldLink RX12 7 "BoatsHomeModel" "tape" "[B") (by first | exact List.mem_of_getElem? (i := 5) rfl | decide +kernel)
  have fl13 := hts (.fieldLink RX12 13 "BoatsHomeModel" "faultPlace" "I") (by first | exact List.mem_of_getElem? (i := 6) rfl | decide +kernel)
  have fl17 := hts (.fieldLink RX12 17 "BoatsHomeModel" "rules" "[I") (by first | exact List.mem_of_getElem? (i := 8) rfl | decide +kernel)
  have fl21 := hts (.fieldLink RX12 21 "BoatsHomeModel" "ruleMany" "[I") (by first | exact List.mem_of_getElem? (i := 9) rfl | decide +kernel)
  have fl24 := hts (.fieldLink RX12 24 "BoatsHomeModel" "boxes" "[I") (by first | exact List.mem_of_getElem? (i := 10) rfl | decide +kernel)
  have fl27 := hts (.fieldLink RX12 27 "BoatsHomeModel" "boxMany" "[I") (by first | exact List.mem_of_getElem? (i := 11) rfl | decide +kernel)
  have fl30 := hts (.fieldLink RX12 30 "BoatsHomeModel" "minCrew" "[I") (by first | exact List.mem_of_getElem? (i := 12) rfl | decide +kernel)
  have fl33 := hts (.fieldLink RX12 33 "BoatsHomeModel" "maxForce" "[I") (by first | exact List.mem_of_getElem? (i := 13) rfl | decide +kernel)
  have fl36 := hts (.fieldLink RX12 36 "BoatsHomeModel" "windTo" "[I") (by first | exact List.mem_of_getElem? (i := 14) rfl | decide +kernel)
  have fl39 := hts (.fieldLink RX12 39 "BoatsHomeModel" "windForce" "[I") (by first | exact List.mem_of_getElem? (i := 15) rfl | decide +kernel)
  have fl42 := hts (.fieldLink RX12 42 "BoatsHomeModel" "ports" "[I") (by first | exact List.mem_of_getElem? (i := 16) rfl | decide +kernel)
  have fl45 := hts (.fieldLink RX12 45 "BoatsHomeModel" "speeds" "[I") (by first | exact List.mem_of_getElem? (i := 17) rfl | decide +kernel)
  have fl48 := hts (.fieldLink RX12 48 "BoatsHomeModel" "litres" "[I") (by first | exact List.mem_of_getElem? (i := 18) rfl | decide +kernel)
  have fl51 := hts (.fieldLink RX12 51 "BoatsHomeModel" "lasts" "[I") (by first | exact List.mem_of_getElem? (i := 19) rfl | decide +kernel)
  have fl54 := hts (.fieldLink RX12 54 "BoatsHomeModel" "begun" "[Z") (by first | exact List.mem_of_getElem? (i := 21) rfl | decide +kernel)
  have fl58 := hts (.fieldLink RX12 58 "BoatsHomeModel" "state" "[I") (by first | exact List.mem_of_getElem? (i := 22) rfl | decide +kernel)
  have fl61 := hts (.fieldLink RX12 61 "BoatsHomeModel" "home" "[I") (by first | exact List.mem_of_getElem? (i := 23) rfl | decide +kernel)
  have fl64 := hts (.fieldLink RX12 64 "BoatsHomeModel" "firstDay" "[I") (by first | exact List.mem_of_getElem? (i := 24) rfl | decide +kernel)
  have fl67 := hts (.fieldLink RX12 67 "BoatsHomeModel" "crewMany" "[I") (by first | exact List.mem_of_getElem? (i := 25) rfl | decide +kernel)
  have fl70 := hts (.fieldLink RX12 70 "BoatsHomeModel" "way" "[I") (by first | exact List.mem_of_getElem? (i := 26) rfl | decide +kernel)
  have fl73 := hts (.fieldLink RX12 73 "BoatsHomeModel" "wayAt" "[I") (by first | exact List.mem_of_getElem? (i := 27) rfl | decide +kernel)
  have fl76 := hts (.fieldLink RX12 76 "BoatsHomeModel" "wayEnd" "[I") (by first | exact List.mem_of_getElem? (i := 28) rfl | decide +kernel)
  have fl79 := hts (.fieldLink RX12 79 "BoatsHomeModel" "watches" "[I") (by first | exact List.mem_of_getElem? (i := 29) rfl | decide +kernel)
  have fl82 := hts (.fieldLink RX12 82 "BoatsHomeModel" "here" "[I") (by first | exact List.mem_of_getElem? (i := 30) rfl | decide +kernel)
  have fl85 := hts (.fieldLink RX12 85 "BoatsHomeModel" "gone" "[I") (by first | exact List.mem_of_getElem? (i := 31) rfl | decide +kernel)
  have fl88 := hts (.fieldLink RX12 88 "BoatsHomeModel" "turned" "[Z") (by first | exact List.mem_of_getElem? (i := 32) rfl | decide +kernel)
  have fl91 := hts (.fieldLink RX12 91 "BoatsHomeModel" "cells" "[I") (by first | exact List.mem_of_getElem? (i := 33) rfl | decide +kernel)
  have fl94 := hts (.fieldLink RX12 94 "BoatsHomeModel" "waited" "[I") (by first | exact List.mem_of_getElem? (i := 34) rfl | decide +kernel)
  have fl97 := hts (.fieldLink RX12 97 "BoatsHomeModel" "bare" "[I") (by first | exact List.mem_of_getElem? (i := 35) rfl | decide +kernel)
  have fl100 := hts (.fieldLink RX12 100 "BoatsHomeModel" "dry" "[I") (by first | exact List.mem_of_getElem? (i := 36) rfl | decide +kernel)
  have fl103 := hts (.fieldLink RX12 103 "BoatsHomeModel" "firstBare" "[I") (by first | exact List.mem_of_getElem? (i := 37) rfl | decide +kernel)
  have fl106 := hts (.fieldLink RX12 106 "BoatsHomeModel" "dFrom" "[I") (by first | exact List.mem_of_getElem? (i := 38) rfl | decide +kernel)
  have fl109 := hts (.fieldLink RX12 109 "BoatsHomeModel" "dTo" "[I") (by first | exact List.mem_of_getElem? (i := 39) rfl | decide +kernel)
  have fl112 := hts (.fieldLink RX12 112 "BoatsHomeModel" "dDays" "[I") (by first | exact List.mem_of_getElem? (i := 40) rfl | decide +kernel)
  have fl115 := hts (.fieldLink RX12 115 "BoatsHomeModel" "dFirst" "[I") (by first | exact List.mem_of_getElem? (i := 41) rfl | decide +kernel)
  have fl118 := hts (.fieldLink RX12 118 "BoatsHomeModel" "dLast" "[I") (by first | exact List.mem_of_getElem? (i := 42) rfl | decide +kernel)
  have fl121 := hts (.fieldLink RX12 121 "BoatsHomeModel" "crewPort" "[I") (by first | exact List.mem_of_getElem? (i := 43) rfl | decide +kernel)
  have fl124 := hts (.fieldLink RX12 124 "BoatsHomeModel" "crewDay" "[I") (by first | exact List.mem_of_getElem? (i := 44) rfl | decide +kernel)
  have fl127 := hts (.fieldLink RX12 127 "BoatsHomeModel" "flights" "[I") (by first | exact List.mem_of_getElem? (i := 45) rfl | decide +kernel)
  have fl130 := hts (.fieldLink RX12 130 "BoatsHomeModel" "least" "[I") (by first | exact List.mem_of_getElem? (i := 46) rfl | decide +kernel)
  have fl133 := hts (.fieldLink RX12 133 "BoatsHomeModel" "order" "[I") (by first | exact List.mem_of_getElem? (i := 47) rfl | decide +kernel)
  have fl136 := hts (.fieldLink RX12 136 "BoatsHomeModel" "given" "[I") (by first | exact List.mem_of_getElem? (i := 48) rfl | decide +kernel)
  have fl139 := hts (.fieldLink RX12 139 "BoatsHomeModel" "bestGiven" "[I") (by first | exact List.mem_of_getElem? (i := 49) rfl | decide +kernel)
  have fl142 := hts (.fieldLink RX12 142 "BoatsHomeModel" "sets" "[I") (by first | exact List.mem_of_getElem? (i := 50) rfl | decide +kernel)
  have fl145 := hts (.fieldLink RX12 145 "BoatsHomeModel" "beginsOn" "[I") (by first | exact List.mem_of_getElem? (i := 51) rfl | decide +kernel)
  have inX12 : ∀ w ∈ u_ws RX12 TX12 59, w ∈ wsX12_init := by first | exact fun w h9 => (List.mem_cons_of_mem _ (List.mem_append_right _ h9)) | decide +kernel
  intro n0
  induction n0 with
  | zero =>
    intro i f H locs ls hn0
    exact absurd hn0 (Nat.not_lt_zero _)
  | succ n0 ih =>
    intro i f H locs ls hn0 hi hf hP hD hS hl
    refine lv_iload_n hx hb dX12_init_391 rfl (lv_at hl 1 rfl) ?_
    refine lv_bipush (v := 7) hx hb dX12_init_392 (by decide) ?_
    refine lv_icmp_ge (tgt := 411) hx hb dX12_init_394 (by decide) (fun c_1 => ?_) (fun c_1 => ?_)
    · have hge : 7 ≤ i := by
        rcases Nat.lt_or_ge i 7 with q | q
        · exact absurd c_1 (nI_ge (b := 7) q (by decide))
        · exact q
      exact kk f _ _ _ (fun k hk => hf k (by omega)) hP hD hS (lv_sub hl [0] rfl)
    · have hlt : i < 7 := by
        rcases Nat.lt_or_ge i 7 with q | q
        · exact q
        · exact absurd (show (7 : Int32) ≤ nI i from nI_le (a := 7) q (by omega)) c_1
      refine lv_aload_n hx hb dX12_init_397 rfl (lv_at hl 0 rfl) ?_
      refine va_get (D := E.1) (ci := 12) (v := .ref qf) (C := RX12) (T := TX12) (N := 59) hx hb hts inX12 hown hK hP 0 rfl rfl 15 (by decide) fl33 (fun _ h9 => h9) hfs dX12_init_398 ?_
      refine lv_iload_n hx hb dX12_init_401 rfl (lv_at hl 1 rfl) ?_
      refine lv_bipush (v := 9) hx hb dX12_init_402 (by decide) ?_
      refine va_iast hx hb hK hP hD hS 1 0 rfl rfl (vp_in_nI hlt (by decide)) dX12_init_404 (fun H locs hP hD hS => ?_)
      have hP : va_P E.1 vwCl ((h0, .inr (12, fs)) :: (qf, .inl (E.2.1 0, 7, .inl (upd f (nI i).toNatClampNeg 9))) :: wr) H := hP
      have hD : va_D A ((h0, .inr (12, fs)) :: (qf, .inl (E.2.1 0, 7, .inl (upd f (nI i).toNatClampNeg 9))) :: wr) := hD
      obtain ⟨f_2, ef_2⟩ : ∃ g : Nat → Int32, g = upd f (nI i).toNatClampNeg 9 := ⟨_, rfl⟩
      rw [← ef_2] at hP hD
      refine lv_iinc (v := (nI (i + 1))) (lv' := [(1, .int (nI (i + 1))), (0, .ref h0)]) hx hb dX12_init_405 hl (k := 1) rfl (show nI i + 1 = nI (i + 1) from nI_1 i) (by decide) rfl (fun ls hl => ?_)
      refine lv_goto (tgt := 391) hx hb dX12_init_408 (by decide) ?_
      exact ih (i + 1) f_2 _ _ _ (by omega) (by omega) (by
            intro k hk
            rw [ef_2, nI_clamp (by omega)]
            by_cases hki : k = i
            · rw [hki, pk_us]
            · rw [pk_un hki]; exact hf k (by omega)) hP hD hS (lv_sub hl [1, 0] rfl)
set_option maxHeartbeats 4000000 in
set_option maxRecDepth 100000 in
theorem lp_m_fly {p : Program} {l : Launch} {e : Env} {R : Room} {s : State} {m : MethodId} {args : Array Value} {below : List Frame} {meth : Method} {c : Code} {cells slots : Nat} {Q : State → Prop} {A : Nat → Prop} (E : vE) (h0 : Nat) (qf : Nat) (fs : List Value) (wr : va_W) (hx : p.tables.exec = Jvm.exec) (hb : c.code = cX12_init) (hml : c.maxLocals = 2) (hown : s.vm.findClass RX12 = some m.cls) (hts : ∀ w ∈ wsX12_init, w.before args s = true) (hkn : kn E s) (hst : st E A s s.heap) (hA : ∀ q : Nat, s.heap.size ≤ q → A q) (hfs : fs[49]? = some (.ref qf)) (kk : ∀ (f : Nat → Int32) (H : Heap) (locs : List Loc) (ls : Array Slot), (∀ k, k < 100 → f k = if k % 11 = 0 then 0 else -1) → va_P E.1 vwCl ((h0, .inr (12, fs)) :: (qf, .inl (E.2.1 0, 100, .inl f)) :: wr) H → va_D A ((h0, .inr (12, fs)) :: (qf, .inl (E.2.1 0, 100, .inl f)) :: wr) → va_S A s.heap H locs → lv_has ls 2 [(0, .ref h0)] → W p l e R s m args below meth c H locs cells slots Q (F0 m 443 ls [])) : ∀ (n0 : Nat) (i : Nat) (f : Nat → Int32) (H : Heap) (locs : List Loc) (ls : Array Slot), 100 - i < n0 → (i ≤ 100) → (∀ k, k < i → f k = if k % 11 = 0 then 0 else -1) → va_P E.1 vwCl ((h0, .inr (12, fs)) :: (qf, .inl (E.2.1 0, 100, .inl f)) :: wr) H → va_D A ((h0, .inr (12, fs)) :: (qf, .inl (E.2.1 0, 100, .inl f)) :: wr) → va_S A s.heap H locs → lv_has ls 2 [(0, .ref h0), (1, .int (nI i))] → W p l e R s m args below meth c H locs cells slots Q (F0 m 413 ls []) := by
  have hK := hkn.1
  have hAO := hkn.2.2.1
  have fl7 := hts (.fieldLink RX12 7 "BoatsHomeModel" "tape" "[B") (by first | exact List.mem_of_getElem? (i := 5) rfl | decide +kernel)
  have fl13 := hts (.fieldLink RX12 13 "BoatsHomeModel" "faultPlace" "I") (by first | exact List.mem_of_getElem? (i := 6) rfl | decide +kernel)
  have fl17 := hts (.fieldLink RX12 17 "BoatsHomeModel" "rules" "[I") (by first | exact List.mem_of_getElem? (i := 8) rfl | decide +kernel)
  have fl21 := hts (.fieldLink RX12 21 "BoatsHomeModel" "ruleMany" "[I") (by first | exact List.mem_of_getElem? (i := 9) rfl | decide +kernel)
  have fl24 := hts (.fieldLink RX12 24 "BoatsHomeModel" "boxes" "[I") (by first | exact List.mem_of_getElem? (i := 10) rfl | decide +kernel)
  have fl27 := hts (.fieldLink RX12 27 "BoatsHomeModel" "boxMany" "[I") (by first | exact List.mem_of_getElem? (i := 11) rfl | decide +kernel)
  have fl30 := hts (.fieldLink RX12 30 "BoatsHomeModel" "minCrew" "[I") (by first | exact List.mem_of_getElem? (i := 12) rfl | decide +kernel)
  have fl33 := hts (.fieldLink RX12 33 "BoatsHomeModel" "maxForce" "[I") (by first | exact List.mem_of_getElem? (i := 13) rfl | decide +kernel)
  have fl36 := hts (.fieldLink RX12 36 "BoatsHomeModel" "windTo" "[I") (by first | exact List.mem_of_getElem? (i := 14) rfl | decide +kernel)
  have fl39 := hts (.fieldLink RX12 39 "BoatsHomeModel" "windForce" "[I") (by first | exact List.mem_of_getElem? (i := 15) rfl | decide +kernel)
  have fl42 := hts (.fieldLink RX12 42 "BoatsHomeModel" "ports" "[I") (by first | exact List.mem_of_getElem? (i := 16) rfl | decide +kernel)
  have fl45 := hts (.fieldLink RX12 45 "BoatsHomeModel" "speeds" "[I") (by first | exact List.mem_of_getElem? (i := 17) rfl | decide +kernel)
  have fl48 := hts (.fieldLink RX12 48 "BoatsHomeModel" "litres" "[I") (by first | exact List.mem_of_getElem? (i := 18) rfl | decide +kernel)
  have fl51 := hts (.fieldLink RX12 51 "BoatsHomeModel" "lasts" "[I") (by first | exact List.mem_of_getElem? (i := 19) rfl | decide +kernel)
  have fl54 := hts (.fieldLink RX12 54 "BoatsHomeModel" "begun" "[Z") (by first | exact List.mem_of_getElem? (i := 21) rfl | decide +kernel)
  have fl58 := hts (.fieldLink RX12 58 "BoatsHomeModel" "state" "[I") (by first | exact List.mem_of_getElem? (i := 22) rfl | decide +kernel)
  have fl61 := hts (.fieldLink RX12 61 "BoatsHomeModel" "home" "[I") (by first | exact List.mem_of_getElem? (i := 23) rfl | decide +kernel)
  have fl64 := hts (.fieldLink RX12 64 "BoatsHomeModel" "firstDay" "[I") (by first | exact List.mem_of_getElem? (i := 24) rfl | decide +kernel)
  have fl67 := hts (.fieldLink RX12 67 "BoatsHomeModel" "crewMany" "[I") (by first | exact List.mem_of_getElem? (i := 25) rfl | decide +kernel)
  have fl70 := hts (.fieldLink RX12 70 "BoatsHomeModel" "way" "[I") (by first | exact List.mem_of_getElem? (i := 26) rfl | decide +kernel)
  have fl73 := hts (.fieldLink RX12 73 "BoatsHomeModel" "wayAt" "[I") (by first | exact List.mem_of_getElem? (i := 27) rfl | decide +kernel)
  have fl76 := hts (.fieldLink RX12 76 "BoatsHomeModel" "wayEnd" "[I") (by first | exact List.mem_of_getElem? (i := 28) rfl | decide +kernel)
  have fl79 := hts (.fieldLink RX12 79 "BoatsHomeModel" "watches" "[I") (by first | exact List.mem_of_getElem? (i := 29) rfl | decide +kernel)
  have fl82 := hts (.fieldLink RX12 82 "BoatsHomeModel" "here" "[I") (by first | exact List.mem_of_getElem? (i := 30) rfl | decide +kernel)
  have fl85 := hts (.fieldLink RX12 85 "BoatsHomeModel" "gone" "[I") (by first | exact List.mem_of_getElem? (i := 31) rfl | decide +kernel)
  have fl88 := hts (.fieldLink RX12 88 "BoatsHomeModel" "turned" "[Z") (by first | exact List.mem_of_getElem? (i := 32) rfl | decide +kernel)
  have fl91 := hts (.fieldLink RX12 91 "BoatsHomeModel" "cells" "[I") (by first | exact List.mem_of_getElem? (i := 33) rfl | decide +kernel)
  have fl94 := hts (.fieldLink RX12 94 "BoatsHomeModel" "waited" "[I") (by first | exact List.mem_of_getElem? (i := 34) rfl | decide +kernel)
  have fl97 := hts (.fieldLink RX12 97 "BoatsHomeModel" "bare" "[I") (by first | exact List.mem_of_getElem? (i := 35) rfl | decide +kernel)
  have fl100 := hts (.fieldLink RX12 100 "BoatsHomeModel" "dry" "[I") (by first | exact List.mem_of_getElem? (i := 36) rfl | decide +kernel)
  have fl103 := hts (.fieldLink RX12 103 "BoatsHomeModel" "firstBare" "[I") (by first | exact List.mem_of_getElem? (i := 37) rfl | decide +kernel)
  have fl106 := hts (.fieldLink RX12 106 "BoatsHomeModel" "dFrom" "[I") (by first | exact List.mem_of_getElem? (i := 38) rfl | decide +kernel)
  have fl109 := hts (.fieldLink RX12 109 "BoatsHomeModel" "dTo" "[I") (by first | exact List.mem_of_getElem? (i := 39) rfl | decide +kernel)
  have fl112 := hts (.fieldLink RX12 112 "BoatsHomeModel" "dDays" "[I") (by first | exact List.mem_of_getElem? (i := 40) rfl | decide +kernel)
  have fl115 := hts (.fieldLink RX12 115 "BoatsHomeModel" "dFirst" "[I") (by first | exact List.mem_of_getElem? (i := 41) rfl | decide +kernel)
  have fl118 := hts (.fieldLink RX12 118 "BoatsHomeModel" "dLast" "[I") (by first | exact List.mem_of_getElem? (i := 42) rfl | decide +kernel)
  have fl121 := hts (.fieldLink RX12 121 "BoatsHomeModel" "crewPort" "[I") (by first | exact List.mem_of_getElem? (i := 43) rfl | decide +kernel)
  have fl124 := hts (.fieldLink RX12 124 "BoatsHomeModel" "crewDay" "[I") (by first | exact List.mem_of_getElem? (i := 44) rfl | decide +kernel)
  have fl127 := hts (.fieldLink RX12 127 "BoatsHomeModel" "flights" "[I") (by first | exact List.mem_of_getElem? (i := 45) rfl | decide +kernel)
  have fl130 := hts (.fieldLink RX12 130 "BoatsHomeModel" "least" "[I") (by first | exact List.mem_of_getElem? (i := 46) rfl | decide +kernel)
  have fl133 := hts (.fieldLink RX12 133 "BoatsHomeModel" "order" "[I") (by first | exact List.mem_of_getElem? (i := 47) rfl | decide +kernel)
  have fl136 := hts (.fieldLink RX12 136 "BoatsHomeModel" "given" "[I") (by first | exact List.mem_of_getElem? (i := 48) rfl | decide +kernel)
  have fl139 := hts (.fieldLink RX12 139 "BoatsHomeModel" "bestGiven" "[I") (by first | exact List.mem_of_getElem? (i := 49) rfl | decide +kernel)
  have fl142 := hts (.fieldLink RX12 142 "BoatsHomeModel" "sets" "[I") (by first | exact List.mem_of_getElem? (i := 50) rfl | decide +kernel)
  have fl145 := hts (.fieldLink RX12 145 "BoatsHomeModel" "beginsOn" "[I") (by first | exact List.mem_of_getElem? (i := 51) rfl | decide +kernel)
  have inX12 : ∀ w ∈ u_ws RX12 TX12 59, w ∈ wsX12_init := by first | exact fun w h9 => (List.mem_cons_of_mem _ (List.mem_append_right _ h9)) | decide +kernel
  intro n0
  induction n0 with
  | zero =>
    intro i f H locs ls hn0
    exact absurd hn0 (Nat.not_lt_zero _)
  | succ n0 ih =>
    intro i f H locs ls hn0 hi hf hP hD hS hl
    refine lv_iload_n hx hb dX12_init_413 rfl (lv_at hl 1 rfl) ?_
    refine lv_bipush (v := 100) hx hb dX12_init_414 (by decide) ?_
    refine lv_icmp_ge (tgt := 443) hx hb dX12_init_416 (by decide) (fun c_1 => ?_) (fun c_1 => ?_)
    · have hge : 100 ≤ i := by
        rcases Nat.lt_or_ge i 100 with q | q
        · exact absurd c_1 (nI_ge (b := 100) q (by decide))
        · exact q
      exact kk f _ _ _ (fun k hk => hf k (by omega)) hP hD hS (lv_sub hl [0] rfl)
    · have hlt : i < 100 := by
        rcases Nat.lt_or_ge i 100 with q | q
        · exact q
        · exact absurd (show (100 : Int32) ≤ nI i from nI_le (a := 100) q (by omega)) c_1
      refine lv_aload_n hx hb dX12_init_419 rfl (lv_at hl 0 rfl) ?_
      refine va_get (D := E.1) (ci := 12) (v := .ref qf) (C := RX12) (T := TX12) (N := 59) hx hb hts inX12 hown hK hP 0 rfl rfl 49 (by decide) fl127 (fun _ h9 => h9) hfs dX12_init_420 ?_
      refine lv_iload_n hx hb dX12_init_423 rfl (lv_at hl 1 rfl) ?_
      refine lv_iload_n hx hb dX12_init_424 rfl (lv_at hl 1 rfl) ?_
      refine lv_bipush (v := 11) hx hb dX12_init_425 (by decide) ?_
      refine lv_irem hx hb dX12_init_427 (by decide) ?_
      refine lv_topi (fun x_2 ex_2 => ?_)
      have hrm : x_2 = nI (i % 11) := by rw [ex_2]; exact pk_rem (d := 11) (by omega) (by decide) (by decide)
      refine lv_if_ne (tgt := 435) hx hb dX12_init_428 (by decide) (fun c_3 => ?_) (fun c_3 => ?_)
      · refine lv_iconst (v := (-1)) hx hb dX12_init_435 (by decide) ?_
        have hz : ¬ i % 11 = 0 := fun h => c_3 (by rw [hrm, h]; rfl)
        refine va_iast hx hb hK hP hD hS 1 0 rfl rfl (vp_in_nI hlt (by decide)) dX12_init_436 (fun H locs hP hD hS => ?_)
        have hP : va_P E.1 vwCl ((h0, .inr (12, fs)) :: (qf, .inl (E.2.1 0, 100, .inl (upd f (nI i).toNatClampNeg (-1)))) :: wr) H := hP
        have hD : va_D A ((h0, .inr (12, fs)) :: (qf, .inl (E.2.1 0, 100, .inl (upd f (nI i).toNatClampNeg (-1)))) :: wr) := hD
        obtain ⟨f_4, ef_4⟩ : ∃ g : Nat → Int32, g = upd f (nI i).toNatClampNeg (-1) := ⟨_, rfl⟩
        rw [← ef_4] at hP hD
        refine lv_iinc (v := (nI (i + 1))) (lv' := [(1, .int (nI (i + 1))), (0, .ref h0)]) hx hb dX12_init_437 hl (k := 1) rfl (show nI i + 1 = nI (i + 1) from nI_1 i) (by decide) rfl (fun ls hl => ?_)
        refine lv_goto (tgt := 413) hx hb dX12_init_440 (by decide) ?_
        exact ih (i + 1) f_4 _ _ _ (by omega) (by omega) (by
              intro k hk
              rw [ef_4, nI_clamp (by omega)]
              by_cases hki : k = i
              · rw [hki, pk_us]; rw [if_neg hz]
              · rw [pk_un hki]; exact hf k (by omega)) hP hD hS (lv_sub hl [1, 0] rfl)
      · refine lv_iconst (v := 0) hx hb dX12_init_431 (by decide) ?_
        refine lv_goto (tgt := 436) hx hb dX12_init_432 (by decide) ?_
        have hz : i % 11 = 0 := by
          rw [hrm] at c_3
          exact (nI_eq (a := i % 11) (b := 0) (by omega) (by decide)).mp c_3
        refine va_iast hx hb hK hP hD hS 1 0 rfl rfl (vp_in_nI hlt (by decide)) dX12_init_436 (fun H locs hP hD hS => ?_)
        have hP : va_P E.1 vwCl ((h0, .inr (12, fs)) :: (qf, .inl (E.2.1 0, 100, .inl (upd f (nI i).toNatClampNeg 0))) :: wr) H := hP
        have hD : va_D A ((h0, .inr (12, fs)) :: (qf, .inl (E.2.1 0, 100, .inl (upd f (nI i).toNatClampNeg 0))) :: wr) := hD
        obtain ⟨f_5, ef_5⟩ : ∃ g : Nat → Int32, g = upd f (nI i).toNatClampNeg 0 := ⟨_, rfl⟩
        rw [← ef_5] at hP hD
        refine lv_iinc (v := (nI (i + 1))) (lv' := [(1, .int (nI (i + 1))), (0, .ref h0)]) hx hb dX12_init_437 hl (k := 1) rfl (show nI i + 1 = nI (i + 1) from nI_1 i) (by decide) rfl (fun ls hl => ?_)
        refine lv_goto (tgt := 413) hx hb dX12_init_440 (by decide) ?_
        exact ih (i + 1) f_5 _ _ _ (by omega) (by omega) (by
              intro k hk
              rw [ef_5, nI_clamp (by omega)]
              by_cases hki : k = i
              · rw [hki, pk_us]; rw [if_pos hz]
              · rw [pk_un hki]; exact hf k (by omega)) hP hD hS (lv_sub hl [1, 0] rfl)
set_option maxHeartbeats 4000000 in
set_option maxRecDepth 100000 in
theorem lp_m_crew {p : Program} {l : Launch} {e : Env} {R : Room} {s : State} {m : MethodId} {args : Array Value} {below : List Frame} {meth : Method} {c : Code} {cells slots : Nat} {Q : State → Prop} {A : Nat → Prop} (E : vE) (h0 : Nat) (qf : Nat) (fs : List Value) (wr : va_W) (hx : p.tables.exec = Jvm.exec) (hb : c.code = cX12_init) (hml : c.maxLocals = 2) (hown : s.vm.findClass RX12 = some m.cls) (hts : ∀ w ∈ wsX12_init, w.before args s = true) (hkn : kn E s) (hst : st E A s s.heap) (hA : ∀ q : Nat, s.heap.size ≤ q → A q) (hfs : fs[47]? = some (.ref qf)) (kk : ∀ (f : Nat → Int32) (H : Heap) (locs : List Loc) (ls : Array Slot), (∀ k, k < 4 → f k = -1) → va_P E.1 vwCl ((h0, .inr (12, fs)) :: (qf, .inl (E.2.1 0, 4, .inl f)) :: wr) H → va_D A ((h0, .inr (12, fs)) :: (qf, .inl (E.2.1 0, 4, .inl f)) :: wr) → va_S A s.heap H locs → lv_has ls 2 [(0, .ref h0)] → W p l e R s m args below meth c H locs cells slots Q (F0 m 463 ls [])) : ∀ (n0 : Nat) (i : Nat) (f : Nat → Int32) (H : Heap) (locs : List Loc) (ls : Array Slot), 4 - i < n0 → (i ≤ 4) → (∀ k, k < i → f k = -1) → va_P E.1 vwCl ((h0, .inr (12, fs)) :: (qf, .inl (E.2.1 0, 4, .inl f)) :: wr) H → va_D A ((h0, .inr (12, fs)) :: (qf, .inl (E.2.1 0, 4, .inl f)) :: wr) → va_S A s.heap H locs → lv_has ls 2 [(0, .ref h0), (1, .int (nI i))] → W p l e R s m args below meth c H locs cells slots Q (F0 m 445 ls []) := by
  have hK := hkn.1
  have hAO := hkn.2.2.1
  have fl7 := hts (.fieldLink RX12 7 "BoatsHomeModel" "tape" "[B") (by first | exact List.mem_of_getElem? (i := 5) rfl | decide +kernel)
  have fl13 := hts (.fieldLink RX12 13 "BoatsHomeModel" "faultPlace" "I") (by first | exact List.mem_of_getElem? (i := 6) rfl | decide +kernel)
  have fl17 := hts (.fieldLink RX12 17 "BoatsHomeModel" "rules" "[I") (by first | exact List.mem_of_getElem? (i := 8) rfl | decide +kernel)
  have fl21 := hts (.fieldLink RX12 21 "BoatsHomeModel" "ruleMany" "[I") (by first | exact List.mem_of_getElem? (i := 9) rfl | decide +kernel)
  have fl24 := hts (.fieldLink RX12 24 "BoatsHomeModel" "boxes" "[I") (by first | exact List.mem_of_getElem? (i := 10) rfl | decide +kernel)
  have fl27 := hts (.fieldLink RX12 27 "BoatsHomeModel" "boxMany" "[I") (by first | exact List.mem_of_getElem? (i := 11) rfl | decide +kernel)
  have fl30 := hts (.fieldLink RX12 30 "BoatsHomeModel" "minCrew" "[I") (by first | exact List.mem_of_getElem? (i := 12) rfl | decide +kernel)
  have fl33 := hts (.fieldLink RX12 33 "BoatsHomeModel" "maxForce" "[I") (by first | exact List.mem_of_getElem? (i := 13) rfl | decide +kernel)
  have fl36 := hts (.fieldLink RX12 36 "BoatsHomeModel" "windTo" "[I") (by first | exact List.mem_of_getElem? (i := 14) rfl | decide +kernel)
  have fl39 := hts (.fieldLink RX12 39 "BoatsHomeModel" "windForce" "[I") (by first | exact List.mem_of_getElem? (i := 15) rfl | decide +kernel)
  have fl42 := hts (.fieldLink RX12 42 "BoatsHomeModel" "ports" "[I") (by first | exact List.mem_of_getElem? (i := 16) rfl | decide +kernel)
  have fl45 := hts (.fieldLink RX12 45 "BoatsHomeModel" "speeds" "[I") (by first | exact List.mem_of_getElem? (i := 17) rfl | decide +kernel)
  have fl48 := hts (.fieldLink RX12 48 "BoatsHomeModel" "litres" "[I") (by first | exact List.mem_of_getElem? (i := 18) rfl | decide +kernel)
  have fl51 := hts (.fieldLink RX12 51 "BoatsHomeModel" "lasts" "[I") (by first | exact List.mem_of_getElem? (i := 19) rfl | decide +kernel)
  have fl54 := hts (.fieldLink RX12 54 "BoatsHomeModel" "begun" "[Z") (by first | exact List.mem_of_getElem? (i := 21) rfl | decide +kernel)
  have fl58 := hts (.fieldLink RX12 58 "BoatsHomeModel" "state" "[I") (by first | exact List.mem_of_getElem? (i := 22) rfl | decide +kernel)
  have fl61 := hts (.fieldLink RX12 61 "BoatsHomeModel" "home" "[I") (by first | exact List.mem_of_getElem? (i := 23) rfl | decide +kernel)
  have fl64 := hts (.fieldLink RX12 64 "BoatsHomeModel" "firstDay" "[I") (by first | exact List.mem_of_getElem? (i := 24) rfl | decide +kernel)
  have fl67 := hts (.fieldLink RX12 67 "BoatsHomeModel" "crewMany" "[I") (by first | exact List.mem_of_getElem? (i := 25) rfl | decide +kernel)
  have fl70 := hts (.fieldLink RX12 70 "BoatsHomeModel" "way" "[I") (by first | exact List.mem_of_getElem? (i := 26) rfl | decide +kernel)
  have fl73 := hts (.fieldLink RX12 73 "BoatsHomeModel" "wayAt" "[I") (by first | exact List.mem_of_getElem? (i := 27) rfl | decide +kernel)
  have fl76 := hts (.fieldLink RX12 76 "BoatsHomeModel" "wayEnd" "[I") (by first | exact List.mem_of_getElem? (i := 28) rfl | decide +kernel)
  have fl79 := hts (.fieldLink RX12 79 "BoatsHomeModel" "watches" "[I") (by first | exact List.mem_of_getElem? (i := 29) rfl | decide +kernel)
  have fl82 := hts (.fieldLink RX12 82 "BoatsHomeModel" "here" "[I") (by first | exact List.mem_of_getElem? (i := 30) rfl | decide +kernel)
  have fl85 := hts (.fieldLink RX12 85 "BoatsHomeModel" "gone" "[I") (by first | exact List.mem_of_getElem? (i := 31) rfl | decide +kernel)
  have fl88 := hts (.fieldLink RX12 88 "BoatsHomeModel" "turned" "[Z") (by first | exact List.mem_of_getElem? (i := 32) rfl | decide +kernel)
  have fl91 := hts (.fieldLink RX12 91 "BoatsHomeModel" "cells" "[I") (by first | exact List.mem_of_getElem? (i := 33) rfl | decide +kernel)
  have fl94 := hts (.fieldLink RX12 94 "BoatsHomeModel" "waited" "[I") (by first | exact List.mem_of_getElem? (i := 34) rfl | decide +kernel)
  have fl97 := hts (.fieldLink RX12 97 "BoatsHomeModel" "bare" "[I") (by first | exact List.mem_of_getElem? (i := 35) rfl | decide +kernel)
  have fl100 := hts (.fieldLink RX12 100 "BoatsHomeModel" "dry" "[I") (by first | exact List.mem_of_getElem? (i := 36) rfl | decide +kernel)
  have fl103 := hts (.fieldLink RX12 103 "BoatsHomeModel" "firstBare" "[I") (by first | exact List.mem_of_getElem? (i := 37) rfl | decide +kernel)
  have fl106 := hts (.fieldLink RX12 106 "BoatsHomeModel" "dFrom" "[I") (by first | exact List.mem_of_getElem? (i := 38) rfl | decide +kernel)
  have fl109 := hts (.fieldLink RX12 109 "BoatsHomeModel" "dTo" "[I") (by first | exact List.mem_of_getElem? (i := 39) rfl | decide +kernel)
  have fl112 := hts (.fieldLink RX12 112 "BoatsHomeModel" "dDays" "[I") (by first | exact List.mem_of_getElem? (i := 40) rfl | decide +kernel)
  have fl115 := hts (.fieldLink RX12 115 "BoatsHomeModel" "dFirst" "[I") (by first | exact List.mem_of_getElem? (i := 41) rfl | decide +kernel)
  have fl118 := hts (.fieldLink RX12 118 "BoatsHomeModel" "dLast" "[I") (by first | exact List.mem_of_getElem? (i := 42) rfl | decide +kernel)
  have fl121 := hts (.fieldLink RX12 121 "BoatsHomeModel" "crewPort" "[I") (by first | exact List.mem_of_getElem? (i := 43) rfl | decide +kernel)
  have fl124 := hts (.fieldLink RX12 124 "BoatsHomeModel" "crewDay" "[I") (by first | exact List.mem_of_getElem? (i := 44) rfl | decide +kernel)
  have fl127 := hts (.fieldLink RX12 127 "BoatsHomeModel" "flights" "[I") (by first | exact List.mem_of_getElem? (i := 45) rfl | decide +kernel)
  have fl130 := hts (.fieldLink RX12 130 "BoatsHomeModel" "least" "[I") (by first | exact List.mem_of_getElem? (i := 46) rfl | decide +kernel)
  have fl133 := hts (.fieldLink RX12 133 "BoatsHomeModel" "order" "[I") (by first | exact List.mem_of_getElem? (i := 47) rfl | decide +kernel)
  have fl136 := hts (.fieldLink RX12 136 "BoatsHomeModel" "given" "[I") (by first | exact List.mem_of_getElem? (i := 48) rfl | decide +kernel)
  have fl139 := hts (.fieldLink RX12 139 "BoatsHomeModel" "bestGiven" "[I") (by first | exact List.mem_of_getElem? (i := 49) rfl | decide +kernel)
  have fl142 := hts (.fieldLink RX12 142 "BoatsHomeModel" "sets" "[I") (by first | exact List.mem_of_getElem? (i := 50) rfl | decide +kernel)
  have fl145 := hts (.fieldLink RX12 145 "BoatsHomeModel" "beginsOn" "[I") (by first | exact List.mem_of_getElem? (i := 51) rfl | decide +kernel)
  have inX12 : ∀ w ∈ u_ws RX12 TX12 59, w ∈ wsX12_init := by first | exact fun w h9 => (List.mem_cons_of_mem _ (List.mem_append_right _ h9)) | decide +kernel
  intro n0
  induction n0 with
  | zero =>
    intro i f H locs ls hn0
    exact absurd hn0 (Nat.not_lt_zero _)
  | succ n0 ih =>
    intro i f H locs ls hn0 hi hf hP hD hS hl
    refine lv_iload_n hx hb dX12_init_445 rfl (lv_at hl 1 rfl) ?_
    refine lv_iconst (v := 4) hx hb dX12_init_446 (by decide) ?_
    refine lv_icmp_ge (tgt := 463) hx hb dX12_init_447 (by decide) (fun c_1 => ?_) (fun c_1 => ?_)
    · have hge : 4 ≤ i := by
        rcases Nat.lt_or_ge i 4 with q | q
        · exact absurd c_1 (nI_ge (b := 4) q (by decide))
        · exact q
      exact kk f _ _ _ (fun k hk => hf k (by omega)) hP hD hS (lv_sub hl [0] rfl)
    · have hlt : i < 4 := by
        rcases Nat.lt_or_ge i 4 with q | q
        · exact q
        · exact absurd (show (4 : Int32) ≤ nI i from nI_le (a := 4) q (by omega)) c_1
      refine lv_aload_n hx hb dX12_init_450 rfl (lv_at hl 0 rfl) ?_
      refine va_get (D := E.1) (ci := 12) (v := .ref qf) (C := RX12) (T := TX12) (N := 59) hx hb hts inX12 hown hK hP 0 rfl rfl 47 (by decide) fl121 (fun _ h9 => h9) hfs dX12_init_451 ?_
      refine lv_iload_n hx hb dX12_init_454 rfl (lv_at hl 1 rfl) ?_
      refine lv_iconst (v := (-1)) hx hb dX12_init_455 (by decide) ?_
      refine va_iast hx hb hK hP hD hS 1 0 rfl rfl (vp_in_nI hlt (by decide)) dX12_init_456 (fun H locs hP hD hS => ?_)
      have hP : va_P E.1 vwCl ((h0, .inr (12, fs)) :: (qf, .inl (E.2.1 0, 4, .inl (upd f (nI i).toNatClampNeg (-1)))) :: wr) H := hP
      have hD : va_D A ((h0, .inr (12, fs)) :: (qf, .inl (E.2.1 0, 4, .inl (upd f (nI i).toNatClampNeg (-1)))) :: wr) := hD
      obtain ⟨f_2, ef_2⟩ : ∃ g : Nat → Int32, g = upd f (nI i).toNatClampNeg (-1) := ⟨_, rfl⟩
      rw [← ef_2] at hP hD
      refine lv_iinc (v := (nI (i + 1))) (lv' := [(1, .int (nI (i + 1))), (0, .ref h0)]) hx hb dX12_init_457 hl (k := 1) rfl (show nI i + 1 = nI (i + 1) from nI_1 i) (by decide) rfl (fun ls hl => ?_)
      refine lv_goto (tgt := 445) hx hb dX12_init_460 (by decide) ?_
      exact ih (i + 1) f_2 _ _ _ (by omega) (by omega) (by
            intro k hk
            rw [ef_2, nI_clamp (by omega)]
            by_cases hki : k = i
            · rw [hki, pk_us]
            · rw [pk_un hki]; exact hf k (by omega)) hP hD hS (lv_sub hl [1, 0] rfl)
